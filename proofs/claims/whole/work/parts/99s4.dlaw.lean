/-! decode rows of the law -/
theorem dL_law_1375 : decode cL_law 1375 = .ok (.invokevirtual 159, 3) := by decide +kernel
theorem dL_law_1378 : decode cL_law 1378 = .ok (.if_icmp .eq 192, 3) := by decide +kernel
theorem dL_law_1381 : decode cL_law 1381 = .ok (.iconst 0, 1) := by decide +kernel
theorem dL_law_1382 : decode cL_law 1382 = .ok (.ireturn, 1) := by decide +kernel
theorem dL_law_1383 : decode cL_law 1383 = .ok (.aload_n 1, 1) := by decide +kernel
theorem dL_law_1384 : decode cL_law 1384 = .ok (.aload_n 0, 1) := by decide +kernel
theorem dL_law_1385 : decode cL_law 1385 = .ok (.iload 4, 2) := by decide +kernel
theorem dL_law_1387 : decode cL_law 1387 = .ok (.iconst 1, 1) := by decide +kernel
theorem dL_law_1388 : decode cL_law 1388 = .ok (.iadd, 1) := by decide +kernel
theorem dL_law_1389 : decode cL_law 1389 = .ok (.iaload, 1) := by decide +kernel
theorem dL_law_1390 : decode cL_law 1390 = .ok (.invokevirtual 160, 3) := by decide +kernel
theorem dL_law_1393 : decode cL_law 1393 = .ok (.aload_n 2, 1) := by decide +kernel
theorem dL_law_1394 : decode cL_law 1394 = .ok (.aload_n 0, 1) := by decide +kernel
theorem dL_law_1395 : decode cL_law 1395 = .ok (.iload 4, 2) := by decide +kernel
theorem dL_law_1397 : decode cL_law 1397 = .ok (.iconst 1, 1) := by decide +kernel
theorem dL_law_1398 : decode cL_law 1398 = .ok (.iadd, 1) := by decide +kernel
theorem dL_law_1399 : decode cL_law 1399 = .ok (.iaload, 1) := by decide +kernel
theorem dL_law_1400 : decode cL_law 1400 = .ok (.invokevirtual 163, 3) := by decide +kernel
theorem dL_law_1403 : decode cL_law 1403 = .ok (.if_icmp .eq 167, 3) := by decide +kernel
theorem dL_law_1406 : decode cL_law 1406 = .ok (.iconst 0, 1) := by decide +kernel
theorem dL_law_1407 : decode cL_law 1407 = .ok (.ireturn, 1) := by decide +kernel
theorem dL_law_1408 : decode cL_law 1408 = .ok (.aload_n 1, 1) := by decide +kernel
theorem dL_law_1409 : decode cL_law 1409 = .ok (.aload_n 0, 1) := by decide +kernel
theorem dL_law_1410 : decode cL_law 1410 = .ok (.iload 4, 2) := by decide +kernel
theorem dL_law_1412 : decode cL_law 1412 = .ok (.iconst 1, 1) := by decide +kernel
theorem dL_law_1413 : decode cL_law 1413 = .ok (.iadd, 1) := by decide +kernel
theorem dL_law_1414 : decode cL_law 1414 = .ok (.iaload, 1) := by decide +kernel
theorem dL_law_1415 : decode cL_law 1415 = .ok (.aload_n 0, 1) := by decide +kernel
theorem dL_law_1416 : decode cL_law 1416 = .ok (.iload 4, 2) := by decide +kernel
theorem dL_law_1418 : decode cL_law 1418 = .ok (.iconst 2, 1) := by decide +kernel
theorem dL_law_1419 : decode cL_law 1419 = .ok (.iadd, 1) := by decide +kernel
theorem dL_law_1420 : decode cL_law 1420 = .ok (.iaload, 1) := by decide +kernel
theorem dL_law_1421 : decode cL_law 1421 = .ok (.aload_n 0, 1) := by decide +kernel
theorem dL_law_1422 : decode cL_law 1422 = .ok (.iload 4, 2) := by decide +kernel
theorem dL_law_1424 : decode cL_law 1424 = .ok (.iconst 3, 1) := by decide +kernel
theorem dL_law_1425 : decode cL_law 1425 = .ok (.iadd, 1) := by decide +kernel
theorem dL_law_1426 : decode cL_law 1426 = .ok (.iaload, 1) := by decide +kernel
theorem dL_law_1427 : decode cL_law 1427 = .ok (.invokevirtual 164, 3) := by decide +kernel
theorem dL_law_1430 : decode cL_law 1430 = .ok (.aload_n 2, 1) := by decide +kernel
theorem dL_law_1431 : decode cL_law 1431 = .ok (.aload_n 0, 1) := by decide +kernel
theorem dL_law_1432 : decode cL_law 1432 = .ok (.iload 4, 2) := by decide +kernel
theorem dL_law_1434 : decode cL_law 1434 = .ok (.iconst 1, 1) := by decide +kernel
theorem dL_law_1435 : decode cL_law 1435 = .ok (.iadd, 1) := by decide +kernel
theorem dL_law_1436 : decode cL_law 1436 = .ok (.iaload, 1) := by decide +kernel
theorem dL_law_1437 : decode cL_law 1437 = .ok (.aload_n 0, 1) := by decide +kernel
theorem dL_law_1438 : decode cL_law 1438 = .ok (.iload 4, 2) := by decide +kernel
theorem dL_law_1440 : decode cL_law 1440 = .ok (.iconst 2, 1) := by decide +kernel
theorem dL_law_1441 : decode cL_law 1441 = .ok (.iadd, 1) := by decide +kernel
theorem dL_law_1442 : decode cL_law 1442 = .ok (.iaload, 1) := by decide +kernel
theorem dL_law_1443 : decode cL_law 1443 = .ok (.aload_n 0, 1) := by decide +kernel
theorem dL_law_1444 : decode cL_law 1444 = .ok (.iload 4, 2) := by decide +kernel
theorem dL_law_1446 : decode cL_law 1446 = .ok (.iconst 3, 1) := by decide +kernel
theorem dL_law_1447 : decode cL_law 1447 = .ok (.iadd, 1) := by decide +kernel
theorem dL_law_1448 : decode cL_law 1448 = .ok (.iaload, 1) := by decide +kernel
theorem dL_law_1449 : decode cL_law 1449 = .ok (.invokevirtual 167, 3) := by decide +kernel
theorem dL_law_1452 : decode cL_law 1452 = .ok (.if_icmp .eq 118, 3) := by decide +kernel
theorem dL_law_1455 : decode cL_law 1455 = .ok (.iconst 0, 1) := by decide +kernel
theorem dL_law_1456 : decode cL_law 1456 = .ok (.ireturn, 1) := by decide +kernel
theorem dL_law_1457 : decode cL_law 1457 = .ok (.aload_n 1, 1) := by decide +kernel
theorem dL_law_1458 : decode cL_law 1458 = .ok (.aload_n 0, 1) := by decide +kernel
theorem dL_law_1459 : decode cL_law 1459 = .ok (.iload 4, 2) := by decide +kernel
theorem dL_law_1461 : decode cL_law 1461 = .ok (.iconst 1, 1) := by decide +kernel
theorem dL_law_1462 : decode cL_law 1462 = .ok (.iadd, 1) := by decide +kernel
theorem dL_law_1463 : decode cL_law 1463 = .ok (.iaload, 1) := by decide +kernel
theorem dL_law_1464 : decode cL_law 1464 = .ok (.aload_n 0, 1) := by decide +kernel
theorem dL_law_1465 : decode cL_law 1465 = .ok (.iload 4, 2) := by decide +kernel
theorem dL_law_1467 : decode cL_law 1467 = .ok (.iconst 2, 1) := by decide +kernel
theorem dL_law_1468 : decode cL_law 1468 = .ok (.iadd, 1) := by decide +kernel
theorem dL_law_1469 : decode cL_law 1469 = .ok (.iaload, 1) := by decide +kernel
theorem dL_law_1470 : decode cL_law 1470 = .ok (.aload_n 0, 1) := by decide +kernel
theorem dL_law_1471 : decode cL_law 1471 = .ok (.iload 4, 2) := by decide +kernel
theorem dL_law_1473 : decode cL_law 1473 = .ok (.iconst 3, 1) := by decide +kernel
theorem dL_law_1474 : decode cL_law 1474 = .ok (.iadd, 1) := by decide +kernel
theorem dL_law_1475 : decode cL_law 1475 = .ok (.iaload, 1) := by decide +kernel
theorem dL_law_1476 : decode cL_law 1476 = .ok (.invokevirtual 168, 3) := by decide +kernel
theorem dL_law_1479 : decode cL_law 1479 = .ok (.aload_n 2, 1) := by decide +kernel
theorem dL_law_1480 : decode cL_law 1480 = .ok (.aload_n 0, 1) := by decide +kernel
theorem dL_law_1481 : decode cL_law 1481 = .ok (.iload 4, 2) := by decide +kernel
theorem dL_law_1483 : decode cL_law 1483 = .ok (.iconst 1, 1) := by decide +kernel
theorem dL_law_1484 : decode cL_law 1484 = .ok (.iadd, 1) := by decide +kernel
theorem dL_law_1485 : decode cL_law 1485 = .ok (.iaload, 1) := by decide +kernel
theorem dL_law_1486 : decode cL_law 1486 = .ok (.aload_n 0, 1) := by decide +kernel
theorem dL_law_1487 : decode cL_law 1487 = .ok (.iload 4, 2) := by decide +kernel
theorem dL_law_1489 : decode cL_law 1489 = .ok (.iconst 2, 1) := by decide +kernel
theorem dL_law_1490 : decode cL_law 1490 = .ok (.iadd, 1) := by decide +kernel
theorem dL_law_1491 : decode cL_law 1491 = .ok (.iaload, 1) := by decide +kernel
theorem dL_law_1492 : decode cL_law 1492 = .ok (.aload_n 0, 1) := by decide +kernel
theorem dL_law_1493 : decode cL_law 1493 = .ok (.iload 4, 2) := by decide +kernel
theorem dL_law_1495 : decode cL_law 1495 = .ok (.iconst 3, 1) := by decide +kernel
theorem dL_law_1496 : decode cL_law 1496 = .ok (.iadd, 1) := by decide +kernel
theorem dL_law_1497 : decode cL_law 1497 = .ok (.iaload, 1) := by decide +kernel
theorem dL_law_1498 : decode cL_law 1498 = .ok (.invokevirtual 171, 3) := by decide +kernel
theorem dL_law_1501 : decode cL_law 1501 = .ok (.if_icmp .eq 69, 3) := by decide +kernel
theorem dL_law_1504 : decode cL_law 1504 = .ok (.iconst 0, 1) := by decide +kernel
theorem dL_law_1505 : decode cL_law 1505 = .ok (.ireturn, 1) := by decide +kernel
theorem dL_law_1506 : decode cL_law 1506 = .ok (.aload_n 1, 1) := by decide +kernel
theorem dL_law_1507 : decode cL_law 1507 = .ok (.invokevirtual 172, 3) := by decide +kernel
theorem dL_law_1510 : decode cL_law 1510 = .ok (.aload_n 2, 1) := by decide +kernel
theorem dL_law_1511 : decode cL_law 1511 = .ok (.invokevirtual 175, 3) := by decide +kernel
theorem dL_law_1514 : decode cL_law 1514 = .ok (.if_icmp .eq 56, 3) := by decide +kernel
theorem dL_law_1517 : decode cL_law 1517 = .ok (.iconst 0, 1) := by decide +kernel
theorem dL_law_1518 : decode cL_law 1518 = .ok (.ireturn, 1) := by decide +kernel
theorem dL_law_1519 : decode cL_law 1519 = .ok (.aload_n 1, 1) := by decide +kernel
theorem dL_law_1520 : decode cL_law 1520 = .ok (.invokevirtual 176, 3) := by decide +kernel
theorem dL_law_1523 : decode cL_law 1523 = .ok (.aload_n 2, 1) := by decide +kernel
theorem dL_law_1524 : decode cL_law 1524 = .ok (.invokevirtual 179, 3) := by decide +kernel
theorem dL_law_1527 : decode cL_law 1527 = .ok (.if_icmp .eq 43, 3) := by decide +kernel
theorem dL_law_1530 : decode cL_law 1530 = .ok (.iconst 0, 1) := by decide +kernel
theorem dL_law_1531 : decode cL_law 1531 = .ok (.ireturn, 1) := by decide +kernel
theorem dL_law_1532 : decode cL_law 1532 = .ok (.aload_n 1, 1) := by decide +kernel
theorem dL_law_1533 : decode cL_law 1533 = .ok (.invokevirtual 180, 3) := by decide +kernel
theorem dL_law_1536 : decode cL_law 1536 = .ok (.aload_n 2, 1) := by decide +kernel
theorem dL_law_1537 : decode cL_law 1537 = .ok (.invokevirtual 183, 3) := by decide +kernel
theorem dL_law_1540 : decode cL_law 1540 = .ok (.if_icmp .eq 30, 3) := by decide +kernel
theorem dL_law_1543 : decode cL_law 1543 = .ok (.iconst 0, 1) := by decide +kernel
theorem dL_law_1544 : decode cL_law 1544 = .ok (.ireturn, 1) := by decide +kernel
theorem dL_law_1545 : decode cL_law 1545 = .ok (.aload_n 1, 1) := by decide +kernel
theorem dL_law_1546 : decode cL_law 1546 = .ok (.aload_n 0, 1) := by decide +kernel
theorem dL_law_1547 : decode cL_law 1547 = .ok (.iload 4, 2) := by decide +kernel
theorem dL_law_1549 : decode cL_law 1549 = .ok (.iconst 1, 1) := by decide +kernel
theorem dL_law_1550 : decode cL_law 1550 = .ok (.iadd, 1) := by decide +kernel
theorem dL_law_1551 : decode cL_law 1551 = .ok (.iaload, 1) := by decide +kernel
theorem dL_law_1552 : decode cL_law 1552 = .ok (.invokevirtual 184, 3) := by decide +kernel
theorem dL_law_1555 : decode cL_law 1555 = .ok (.aload_n 2, 1) := by decide +kernel
theorem dL_law_1556 : decode cL_law 1556 = .ok (.aload_n 0, 1) := by decide +kernel
theorem dL_law_1557 : decode cL_law 1557 = .ok (.iload 4, 2) := by decide +kernel
theorem dL_law_1559 : decode cL_law 1559 = .ok (.iconst 1, 1) := by decide +kernel
theorem dL_law_1560 : decode cL_law 1560 = .ok (.iadd, 1) := by decide +kernel
theorem dL_law_1561 : decode cL_law 1561 = .ok (.iaload, 1) := by decide +kernel
theorem dL_law_1562 : decode cL_law 1562 = .ok (.invokevirtual 187, 3) := by decide +kernel
theorem dL_law_1565 : decode cL_law 1565 = .ok (.if_icmp .eq 5, 3) := by decide +kernel
theorem dL_law_1568 : decode cL_law 1568 = .ok (.iconst 0, 1) := by decide +kernel
theorem dL_law_1569 : decode cL_law 1569 = .ok (.ireturn, 1) := by decide +kernel
theorem dL_law_1570 : decode cL_law 1570 = .ok (.iinc 4 6, 3) := by decide +kernel
theorem dL_law_1573 : decode cL_law 1573 = .ok (.goto (-1550), 3) := by decide +kernel
theorem dL_law_1576 : decode cL_law 1576 = .ok (.iconst 1, 1) := by decide +kernel
theorem dL_law_1577 : decode cL_law 1577 = .ok (.ireturn, 1) := by decide +kernel
