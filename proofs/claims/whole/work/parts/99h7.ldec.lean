theorem dL_law_1406 : decode code 1406 = .ok (.aload_n 2, 1) := by decide +kernel
theorem dL_law_1407 : decode code 1407 = .ok (.aload_n 0, 1) := by decide +kernel
theorem dL_law_1408 : decode code 1408 = .ok (.iload_n 3, 1) := by decide +kernel
theorem dL_law_1409 : decode code 1409 = .ok (.iconst 1, 1) := by decide +kernel
theorem dL_law_1410 : decode code 1410 = .ok (.iadd, 1) := by decide +kernel
theorem dL_law_1411 : decode code 1411 = .ok (.iaload, 1) := by decide +kernel
theorem dL_law_1412 : decode code 1412 = .ok (.aload_n 0, 1) := by decide +kernel
theorem dL_law_1413 : decode code 1413 = .ok (.iload_n 3, 1) := by decide +kernel
theorem dL_law_1414 : decode code 1414 = .ok (.iconst 2, 1) := by decide +kernel
theorem dL_law_1415 : decode code 1415 = .ok (.iadd, 1) := by decide +kernel
theorem dL_law_1416 : decode code 1416 = .ok (.iaload, 1) := by decide +kernel
theorem dL_law_1417 : decode code 1417 = .ok (.invokevirtual 200, 3) := by decide +kernel
theorem dL_law_1420 : decode code 1420 = .ok (.if_icmp .eq 117, 3) := by decide +kernel
theorem dL_law_1423 : decode code 1423 = .ok (.iconst 0, 1) := by decide +kernel
theorem dL_law_1424 : decode code 1424 = .ok (.ireturn, 1) := by decide +kernel
theorem dL_law_1425 : decode code 1425 = .ok (.aload_n 1, 1) := by decide +kernel
theorem dL_law_1426 : decode code 1426 = .ok (.aload_n 0, 1) := by decide +kernel
theorem dL_law_1427 : decode code 1427 = .ok (.iload_n 3, 1) := by decide +kernel
theorem dL_law_1428 : decode code 1428 = .ok (.iconst 1, 1) := by decide +kernel
theorem dL_law_1429 : decode code 1429 = .ok (.iadd, 1) := by decide +kernel
theorem dL_law_1430 : decode code 1430 = .ok (.iaload, 1) := by decide +kernel
theorem dL_law_1431 : decode code 1431 = .ok (.aload_n 0, 1) := by decide +kernel
theorem dL_law_1432 : decode code 1432 = .ok (.iload_n 3, 1) := by decide +kernel
theorem dL_law_1433 : decode code 1433 = .ok (.iconst 2, 1) := by decide +kernel
theorem dL_law_1434 : decode code 1434 = .ok (.iadd, 1) := by decide +kernel
theorem dL_law_1435 : decode code 1435 = .ok (.iaload, 1) := by decide +kernel
theorem dL_law_1436 : decode code 1436 = .ok (.aload_n 0, 1) := by decide +kernel
theorem dL_law_1437 : decode code 1437 = .ok (.iload_n 3, 1) := by decide +kernel
theorem dL_law_1438 : decode code 1438 = .ok (.iconst 3, 1) := by decide +kernel
theorem dL_law_1439 : decode code 1439 = .ok (.iadd, 1) := by decide +kernel
theorem dL_law_1440 : decode code 1440 = .ok (.iaload, 1) := by decide +kernel
theorem dL_law_1441 : decode code 1441 = .ok (.invokevirtual 201, 3) := by decide +kernel
theorem dL_law_1444 : decode code 1444 = .ok (.aload_n 2, 1) := by decide +kernel
theorem dL_law_1445 : decode code 1445 = .ok (.aload_n 0, 1) := by decide +kernel
theorem dL_law_1446 : decode code 1446 = .ok (.iload_n 3, 1) := by decide +kernel
theorem dL_law_1447 : decode code 1447 = .ok (.iconst 1, 1) := by decide +kernel
theorem dL_law_1448 : decode code 1448 = .ok (.iadd, 1) := by decide +kernel
theorem dL_law_1449 : decode code 1449 = .ok (.iaload, 1) := by decide +kernel
theorem dL_law_1450 : decode code 1450 = .ok (.aload_n 0, 1) := by decide +kernel
theorem dL_law_1451 : decode code 1451 = .ok (.iload_n 3, 1) := by decide +kernel
theorem dL_law_1452 : decode code 1452 = .ok (.iconst 2, 1) := by decide +kernel
theorem dL_law_1453 : decode code 1453 = .ok (.iadd, 1) := by decide +kernel
theorem dL_law_1454 : decode code 1454 = .ok (.iaload, 1) := by decide +kernel
theorem dL_law_1455 : decode code 1455 = .ok (.aload_n 0, 1) := by decide +kernel
theorem dL_law_1456 : decode code 1456 = .ok (.iload_n 3, 1) := by decide +kernel
theorem dL_law_1457 : decode code 1457 = .ok (.iconst 3, 1) := by decide +kernel
theorem dL_law_1458 : decode code 1458 = .ok (.iadd, 1) := by decide +kernel
theorem dL_law_1459 : decode code 1459 = .ok (.iaload, 1) := by decide +kernel
theorem dL_law_1460 : decode code 1460 = .ok (.invokevirtual 204, 3) := by decide +kernel
theorem dL_law_1463 : decode code 1463 = .ok (.if_icmp .eq 74, 3) := by decide +kernel
theorem dL_law_1466 : decode code 1466 = .ok (.iconst 0, 1) := by decide +kernel
theorem dL_law_1467 : decode code 1467 = .ok (.ireturn, 1) := by decide +kernel
theorem dL_law_1468 : decode code 1468 = .ok (.aload_n 1, 1) := by decide +kernel
theorem dL_law_1469 : decode code 1469 = .ok (.aload_n 0, 1) := by decide +kernel
theorem dL_law_1470 : decode code 1470 = .ok (.iload_n 3, 1) := by decide +kernel
theorem dL_law_1471 : decode code 1471 = .ok (.iconst 1, 1) := by decide +kernel
theorem dL_law_1472 : decode code 1472 = .ok (.iadd, 1) := by decide +kernel
theorem dL_law_1473 : decode code 1473 = .ok (.iaload, 1) := by decide +kernel
theorem dL_law_1474 : decode code 1474 = .ok (.invokevirtual 205, 3) := by decide +kernel
theorem dL_law_1477 : decode code 1477 = .ok (.aload_n 2, 1) := by decide +kernel
theorem dL_law_1478 : decode code 1478 = .ok (.aload_n 0, 1) := by decide +kernel
theorem dL_law_1479 : decode code 1479 = .ok (.iload_n 3, 1) := by decide +kernel
theorem dL_law_1480 : decode code 1480 = .ok (.iconst 1, 1) := by decide +kernel
theorem dL_law_1481 : decode code 1481 = .ok (.iadd, 1) := by decide +kernel
theorem dL_law_1482 : decode code 1482 = .ok (.iaload, 1) := by decide +kernel
theorem dL_law_1483 : decode code 1483 = .ok (.invokevirtual 208, 3) := by decide +kernel
theorem dL_law_1486 : decode code 1486 = .ok (.if_icmp .eq 51, 3) := by decide +kernel
theorem dL_law_1489 : decode code 1489 = .ok (.iconst 0, 1) := by decide +kernel
theorem dL_law_1490 : decode code 1490 = .ok (.ireturn, 1) := by decide +kernel
theorem dL_law_1491 : decode code 1491 = .ok (.aload_n 1, 1) := by decide +kernel
theorem dL_law_1492 : decode code 1492 = .ok (.aload_n 0, 1) := by decide +kernel
theorem dL_law_1493 : decode code 1493 = .ok (.iload_n 3, 1) := by decide +kernel
theorem dL_law_1494 : decode code 1494 = .ok (.iconst 1, 1) := by decide +kernel
theorem dL_law_1495 : decode code 1495 = .ok (.iadd, 1) := by decide +kernel
theorem dL_law_1496 : decode code 1496 = .ok (.iaload, 1) := by decide +kernel
theorem dL_law_1497 : decode code 1497 = .ok (.invokevirtual 209, 3) := by decide +kernel
theorem dL_law_1500 : decode code 1500 = .ok (.aload_n 2, 1) := by decide +kernel
theorem dL_law_1501 : decode code 1501 = .ok (.aload_n 0, 1) := by decide +kernel
theorem dL_law_1502 : decode code 1502 = .ok (.iload_n 3, 1) := by decide +kernel
theorem dL_law_1503 : decode code 1503 = .ok (.iconst 1, 1) := by decide +kernel
theorem dL_law_1504 : decode code 1504 = .ok (.iadd, 1) := by decide +kernel
theorem dL_law_1505 : decode code 1505 = .ok (.iaload, 1) := by decide +kernel
theorem dL_law_1506 : decode code 1506 = .ok (.invokevirtual 212, 3) := by decide +kernel
theorem dL_law_1509 : decode code 1509 = .ok (.if_icmp .eq 28, 3) := by decide +kernel
theorem dL_law_1512 : decode code 1512 = .ok (.iconst 0, 1) := by decide +kernel
theorem dL_law_1513 : decode code 1513 = .ok (.ireturn, 1) := by decide +kernel
theorem dL_law_1514 : decode code 1514 = .ok (.aload_n 1, 1) := by decide +kernel
theorem dL_law_1515 : decode code 1515 = .ok (.aload_n 0, 1) := by decide +kernel
theorem dL_law_1516 : decode code 1516 = .ok (.iload_n 3, 1) := by decide +kernel
theorem dL_law_1517 : decode code 1517 = .ok (.iconst 1, 1) := by decide +kernel
theorem dL_law_1518 : decode code 1518 = .ok (.iadd, 1) := by decide +kernel
theorem dL_law_1519 : decode code 1519 = .ok (.iaload, 1) := by decide +kernel
theorem dL_law_1520 : decode code 1520 = .ok (.invokevirtual 213, 3) := by decide +kernel
theorem dL_law_1523 : decode code 1523 = .ok (.aload_n 2, 1) := by decide +kernel
theorem dL_law_1524 : decode code 1524 = .ok (.aload_n 0, 1) := by decide +kernel
theorem dL_law_1525 : decode code 1525 = .ok (.iload_n 3, 1) := by decide +kernel
theorem dL_law_1526 : decode code 1526 = .ok (.iconst 1, 1) := by decide +kernel
theorem dL_law_1527 : decode code 1527 = .ok (.iadd, 1) := by decide +kernel
theorem dL_law_1528 : decode code 1528 = .ok (.iaload, 1) := by decide +kernel
theorem dL_law_1529 : decode code 1529 = .ok (.invokevirtual 216, 3) := by decide +kernel
theorem dL_law_1532 : decode code 1532 = .ok (.if_icmp .eq 5, 3) := by decide +kernel
theorem dL_law_1535 : decode code 1535 = .ok (.iconst 0, 1) := by decide +kernel
theorem dL_law_1536 : decode code 1536 = .ok (.ireturn, 1) := by decide +kernel
theorem dL_law_1537 : decode code 1537 = .ok (.iinc 3 6, 3) := by decide +kernel
theorem dL_law_1540 : decode code 1540 = .ok (.goto (-1522), 3) := by decide +kernel
theorem dL_law_1543 : decode code 1543 = .ok (.iconst 1, 1) := by decide +kernel
theorem dL_law_1544 : decode code 1544 = .ok (.ireturn, 1) := by decide +kernel
