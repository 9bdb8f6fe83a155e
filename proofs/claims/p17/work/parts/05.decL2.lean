def dT_L_law_280 : List (Nat × Instr × Nat) := [(458, .invokevirtual 57, 3), (461, .pop, 1), (462, .aload_n 2, 1), (463, .aload_n 0, 1), (464, .iload_n 3, 1), (465, .iconst 1, 1), (466, .iadd, 1), (467, .iaload, 1), (468, .aload_n 0, 1), (469, .iload_n 3, 1), (470, .iconst 2, 1), (471, .iadd, 1), (472, .iaload, 1), (473, .invokevirtual 60, 3), (476, .pop, 1), (477, .goto 312, 3), (480, .aload_n 1, 1), (481, .aload_n 0, 1), (482, .iload_n 3, 1), (483, .iconst 1, 1), (484, .iadd, 1), (485, .iaload, 1), (486, .invokevirtual 61, 3), (489, .pop, 1), (490, .aload_n 2, 1), (491, .aload_n 0, 1), (492, .iload_n 3, 1), (493, .iconst 1, 1), (494, .iadd, 1), (495, .iaload, 1), (496, .invokevirtual 64, 3), (499, .pop, 1), (500, .goto 289, 3), (503, .aload_n 1, 1), (504, .aload_n 0, 1)]
theorem dT_L_law_280_ok : (dT_L_law_280.all fun e => decide (decode cL_law e.1 = .ok (e.2.1, e.2.2))) = true := by decide +kernel
theorem dL_law_458 : decode cL_law 458 = .ok (.invokevirtual 57, 3) := dec_of dT_L_law_280_ok 0 rfl
theorem dL_law_461 : decode cL_law 461 = .ok (.pop, 1) := dec_of dT_L_law_280_ok 1 rfl
theorem dL_law_462 : decode cL_law 462 = .ok (.aload_n 2, 1) := dec_of dT_L_law_280_ok 2 rfl
theorem dL_law_463 : decode cL_law 463 = .ok (.aload_n 0, 1) := dec_of dT_L_law_280_ok 3 rfl
theorem dL_law_464 : decode cL_law 464 = .ok (.iload_n 3, 1) := dec_of dT_L_law_280_ok 4 rfl
theorem dL_law_465 : decode cL_law 465 = .ok (.iconst 1, 1) := dec_of dT_L_law_280_ok 5 rfl
theorem dL_law_466 : decode cL_law 466 = .ok (.iadd, 1) := dec_of dT_L_law_280_ok 6 rfl
theorem dL_law_467 : decode cL_law 467 = .ok (.iaload, 1) := dec_of dT_L_law_280_ok 7 rfl
theorem dL_law_468 : decode cL_law 468 = .ok (.aload_n 0, 1) := dec_of dT_L_law_280_ok 8 rfl
theorem dL_law_469 : decode cL_law 469 = .ok (.iload_n 3, 1) := dec_of dT_L_law_280_ok 9 rfl
theorem dL_law_470 : decode cL_law 470 = .ok (.iconst 2, 1) := dec_of dT_L_law_280_ok 10 rfl
theorem dL_law_471 : decode cL_law 471 = .ok (.iadd, 1) := dec_of dT_L_law_280_ok 11 rfl
theorem dL_law_472 : decode cL_law 472 = .ok (.iaload, 1) := dec_of dT_L_law_280_ok 12 rfl
theorem dL_law_473 : decode cL_law 473 = .ok (.invokevirtual 60, 3) := dec_of dT_L_law_280_ok 13 rfl
theorem dL_law_476 : decode cL_law 476 = .ok (.pop, 1) := dec_of dT_L_law_280_ok 14 rfl
theorem dL_law_477 : decode cL_law 477 = .ok (.goto 312, 3) := dec_of dT_L_law_280_ok 15 rfl
theorem dL_law_480 : decode cL_law 480 = .ok (.aload_n 1, 1) := dec_of dT_L_law_280_ok 16 rfl
theorem dL_law_481 : decode cL_law 481 = .ok (.aload_n 0, 1) := dec_of dT_L_law_280_ok 17 rfl
theorem dL_law_482 : decode cL_law 482 = .ok (.iload_n 3, 1) := dec_of dT_L_law_280_ok 18 rfl
theorem dL_law_483 : decode cL_law 483 = .ok (.iconst 1, 1) := dec_of dT_L_law_280_ok 19 rfl
theorem dL_law_484 : decode cL_law 484 = .ok (.iadd, 1) := dec_of dT_L_law_280_ok 20 rfl
theorem dL_law_485 : decode cL_law 485 = .ok (.iaload, 1) := dec_of dT_L_law_280_ok 21 rfl
theorem dL_law_486 : decode cL_law 486 = .ok (.invokevirtual 61, 3) := dec_of dT_L_law_280_ok 22 rfl
theorem dL_law_489 : decode cL_law 489 = .ok (.pop, 1) := dec_of dT_L_law_280_ok 23 rfl
theorem dL_law_490 : decode cL_law 490 = .ok (.aload_n 2, 1) := dec_of dT_L_law_280_ok 24 rfl
theorem dL_law_491 : decode cL_law 491 = .ok (.aload_n 0, 1) := dec_of dT_L_law_280_ok 25 rfl
theorem dL_law_492 : decode cL_law 492 = .ok (.iload_n 3, 1) := dec_of dT_L_law_280_ok 26 rfl
theorem dL_law_493 : decode cL_law 493 = .ok (.iconst 1, 1) := dec_of dT_L_law_280_ok 27 rfl
theorem dL_law_494 : decode cL_law 494 = .ok (.iadd, 1) := dec_of dT_L_law_280_ok 28 rfl
theorem dL_law_495 : decode cL_law 495 = .ok (.iaload, 1) := dec_of dT_L_law_280_ok 29 rfl
theorem dL_law_496 : decode cL_law 496 = .ok (.invokevirtual 64, 3) := dec_of dT_L_law_280_ok 30 rfl
theorem dL_law_499 : decode cL_law 499 = .ok (.pop, 1) := dec_of dT_L_law_280_ok 31 rfl
theorem dL_law_500 : decode cL_law 500 = .ok (.goto 289, 3) := dec_of dT_L_law_280_ok 32 rfl
theorem dL_law_503 : decode cL_law 503 = .ok (.aload_n 1, 1) := dec_of dT_L_law_280_ok 33 rfl
theorem dL_law_504 : decode cL_law 504 = .ok (.aload_n 0, 1) := dec_of dT_L_law_280_ok 34 rfl
def dT_L_law_315 : List (Nat × Instr × Nat) := [(505, .iload_n 3, 1), (506, .iconst 1, 1), (507, .iadd, 1), (508, .iaload, 1), (509, .invokevirtual 65, 3), (512, .pop, 1), (513, .aload_n 2, 1), (514, .aload_n 0, 1), (515, .iload_n 3, 1), (516, .iconst 1, 1), (517, .iadd, 1), (518, .iaload, 1), (519, .invokevirtual 68, 3), (522, .pop, 1), (523, .goto 266, 3), (526, .aload_n 1, 1), (527, .invokevirtual 69, 3), (530, .pop, 1), (531, .aload_n 2, 1), (532, .invokevirtual 72, 3), (535, .pop, 1), (536, .goto 253, 3), (539, .aload_n 1, 1), (540, .aload_n 0, 1), (541, .iload_n 3, 1), (542, .iconst 1, 1), (543, .iadd, 1), (544, .iaload, 1), (545, .invokevirtual 73, 3), (548, .pop, 1), (549, .aload_n 2, 1), (550, .aload_n 0, 1), (551, .iload_n 3, 1), (552, .iconst 1, 1), (553, .iadd, 1)]
theorem dT_L_law_315_ok : (dT_L_law_315.all fun e => decide (decode cL_law e.1 = .ok (e.2.1, e.2.2))) = true := by decide +kernel
theorem dL_law_505 : decode cL_law 505 = .ok (.iload_n 3, 1) := dec_of dT_L_law_315_ok 0 rfl
theorem dL_law_506 : decode cL_law 506 = .ok (.iconst 1, 1) := dec_of dT_L_law_315_ok 1 rfl
theorem dL_law_507 : decode cL_law 507 = .ok (.iadd, 1) := dec_of dT_L_law_315_ok 2 rfl
theorem dL_law_508 : decode cL_law 508 = .ok (.iaload, 1) := dec_of dT_L_law_315_ok 3 rfl
theorem dL_law_509 : decode cL_law 509 = .ok (.invokevirtual 65, 3) := dec_of dT_L_law_315_ok 4 rfl
theorem dL_law_512 : decode cL_law 512 = .ok (.pop, 1) := dec_of dT_L_law_315_ok 5 rfl
theorem dL_law_513 : decode cL_law 513 = .ok (.aload_n 2, 1) := dec_of dT_L_law_315_ok 6 rfl
theorem dL_law_514 : decode cL_law 514 = .ok (.aload_n 0, 1) := dec_of dT_L_law_315_ok 7 rfl
theorem dL_law_515 : decode cL_law 515 = .ok (.iload_n 3, 1) := dec_of dT_L_law_315_ok 8 rfl
theorem dL_law_516 : decode cL_law 516 = .ok (.iconst 1, 1) := dec_of dT_L_law_315_ok 9 rfl
theorem dL_law_517 : decode cL_law 517 = .ok (.iadd, 1) := dec_of dT_L_law_315_ok 10 rfl
theorem dL_law_518 : decode cL_law 518 = .ok (.iaload, 1) := dec_of dT_L_law_315_ok 11 rfl
theorem dL_law_519 : decode cL_law 519 = .ok (.invokevirtual 68, 3) := dec_of dT_L_law_315_ok 12 rfl
theorem dL_law_522 : decode cL_law 522 = .ok (.pop, 1) := dec_of dT_L_law_315_ok 13 rfl
theorem dL_law_523 : decode cL_law 523 = .ok (.goto 266, 3) := dec_of dT_L_law_315_ok 14 rfl
theorem dL_law_526 : decode cL_law 526 = .ok (.aload_n 1, 1) := dec_of dT_L_law_315_ok 15 rfl
theorem dL_law_527 : decode cL_law 527 = .ok (.invokevirtual 69, 3) := dec_of dT_L_law_315_ok 16 rfl
theorem dL_law_530 : decode cL_law 530 = .ok (.pop, 1) := dec_of dT_L_law_315_ok 17 rfl
theorem dL_law_531 : decode cL_law 531 = .ok (.aload_n 2, 1) := dec_of dT_L_law_315_ok 18 rfl
theorem dL_law_532 : decode cL_law 532 = .ok (.invokevirtual 72, 3) := dec_of dT_L_law_315_ok 19 rfl
theorem dL_law_535 : decode cL_law 535 = .ok (.pop, 1) := dec_of dT_L_law_315_ok 20 rfl
theorem dL_law_536 : decode cL_law 536 = .ok (.goto 253, 3) := dec_of dT_L_law_315_ok 21 rfl
theorem dL_law_539 : decode cL_law 539 = .ok (.aload_n 1, 1) := dec_of dT_L_law_315_ok 22 rfl
theorem dL_law_540 : decode cL_law 540 = .ok (.aload_n 0, 1) := dec_of dT_L_law_315_ok 23 rfl
theorem dL_law_541 : decode cL_law 541 = .ok (.iload_n 3, 1) := dec_of dT_L_law_315_ok 24 rfl
theorem dL_law_542 : decode cL_law 542 = .ok (.iconst 1, 1) := dec_of dT_L_law_315_ok 25 rfl
theorem dL_law_543 : decode cL_law 543 = .ok (.iadd, 1) := dec_of dT_L_law_315_ok 26 rfl
theorem dL_law_544 : decode cL_law 544 = .ok (.iaload, 1) := dec_of dT_L_law_315_ok 27 rfl
theorem dL_law_545 : decode cL_law 545 = .ok (.invokevirtual 73, 3) := dec_of dT_L_law_315_ok 28 rfl
theorem dL_law_548 : decode cL_law 548 = .ok (.pop, 1) := dec_of dT_L_law_315_ok 29 rfl
theorem dL_law_549 : decode cL_law 549 = .ok (.aload_n 2, 1) := dec_of dT_L_law_315_ok 30 rfl
theorem dL_law_550 : decode cL_law 550 = .ok (.aload_n 0, 1) := dec_of dT_L_law_315_ok 31 rfl
theorem dL_law_551 : decode cL_law 551 = .ok (.iload_n 3, 1) := dec_of dT_L_law_315_ok 32 rfl
theorem dL_law_552 : decode cL_law 552 = .ok (.iconst 1, 1) := dec_of dT_L_law_315_ok 33 rfl
theorem dL_law_553 : decode cL_law 553 = .ok (.iadd, 1) := dec_of dT_L_law_315_ok 34 rfl
def dT_L_law_350 : List (Nat × Instr × Nat) := [(554, .iaload, 1), (555, .invokevirtual 76, 3), (558, .pop, 1), (559, .goto 230, 3), (562, .aload_n 1, 1), (563, .aload_n 0, 1), (564, .iload_n 3, 1), (565, .iconst 1, 1), (566, .iadd, 1), (567, .iaload, 1), (568, .invokevirtual 77, 3), (571, .pop, 1), (572, .aload_n 2, 1), (573, .aload_n 0, 1), (574, .iload_n 3, 1), (575, .iconst 1, 1), (576, .iadd, 1), (577, .iaload, 1), (578, .invokevirtual 80, 3), (581, .pop, 1), (582, .goto 207, 3), (585, .aload_n 1, 1), (586, .invokevirtual 81, 3), (589, .aload_n 2, 1), (590, .invokevirtual 84, 3), (593, .if_icmp .eq 196, 3), (596, .iconst 0, 1), (597, .ireturn, 1), (598, .aload_n 1, 1), (599, .aload_n 0, 1), (600, .iload_n 3, 1), (601, .iconst 1, 1), (602, .iadd, 1), (603, .iaload, 1), (604, .invokevirtual 85, 3)]
theorem dT_L_law_350_ok : (dT_L_law_350.all fun e => decide (decode cL_law e.1 = .ok (e.2.1, e.2.2))) = true := by decide +kernel
theorem dL_law_554 : decode cL_law 554 = .ok (.iaload, 1) := dec_of dT_L_law_350_ok 0 rfl
theorem dL_law_555 : decode cL_law 555 = .ok (.invokevirtual 76, 3) := dec_of dT_L_law_350_ok 1 rfl
theorem dL_law_558 : decode cL_law 558 = .ok (.pop, 1) := dec_of dT_L_law_350_ok 2 rfl
theorem dL_law_559 : decode cL_law 559 = .ok (.goto 230, 3) := dec_of dT_L_law_350_ok 3 rfl
theorem dL_law_562 : decode cL_law 562 = .ok (.aload_n 1, 1) := dec_of dT_L_law_350_ok 4 rfl
theorem dL_law_563 : decode cL_law 563 = .ok (.aload_n 0, 1) := dec_of dT_L_law_350_ok 5 rfl
theorem dL_law_564 : decode cL_law 564 = .ok (.iload_n 3, 1) := dec_of dT_L_law_350_ok 6 rfl
theorem dL_law_565 : decode cL_law 565 = .ok (.iconst 1, 1) := dec_of dT_L_law_350_ok 7 rfl
theorem dL_law_566 : decode cL_law 566 = .ok (.iadd, 1) := dec_of dT_L_law_350_ok 8 rfl
theorem dL_law_567 : decode cL_law 567 = .ok (.iaload, 1) := dec_of dT_L_law_350_ok 9 rfl
theorem dL_law_568 : decode cL_law 568 = .ok (.invokevirtual 77, 3) := dec_of dT_L_law_350_ok 10 rfl
theorem dL_law_571 : decode cL_law 571 = .ok (.pop, 1) := dec_of dT_L_law_350_ok 11 rfl
theorem dL_law_572 : decode cL_law 572 = .ok (.aload_n 2, 1) := dec_of dT_L_law_350_ok 12 rfl
theorem dL_law_573 : decode cL_law 573 = .ok (.aload_n 0, 1) := dec_of dT_L_law_350_ok 13 rfl
theorem dL_law_574 : decode cL_law 574 = .ok (.iload_n 3, 1) := dec_of dT_L_law_350_ok 14 rfl
theorem dL_law_575 : decode cL_law 575 = .ok (.iconst 1, 1) := dec_of dT_L_law_350_ok 15 rfl
theorem dL_law_576 : decode cL_law 576 = .ok (.iadd, 1) := dec_of dT_L_law_350_ok 16 rfl
theorem dL_law_577 : decode cL_law 577 = .ok (.iaload, 1) := dec_of dT_L_law_350_ok 17 rfl
theorem dL_law_578 : decode cL_law 578 = .ok (.invokevirtual 80, 3) := dec_of dT_L_law_350_ok 18 rfl
theorem dL_law_581 : decode cL_law 581 = .ok (.pop, 1) := dec_of dT_L_law_350_ok 19 rfl
theorem dL_law_582 : decode cL_law 582 = .ok (.goto 207, 3) := dec_of dT_L_law_350_ok 20 rfl
theorem dL_law_585 : decode cL_law 585 = .ok (.aload_n 1, 1) := dec_of dT_L_law_350_ok 21 rfl
theorem dL_law_586 : decode cL_law 586 = .ok (.invokevirtual 81, 3) := dec_of dT_L_law_350_ok 22 rfl
theorem dL_law_589 : decode cL_law 589 = .ok (.aload_n 2, 1) := dec_of dT_L_law_350_ok 23 rfl
theorem dL_law_590 : decode cL_law 590 = .ok (.invokevirtual 84, 3) := dec_of dT_L_law_350_ok 24 rfl
theorem dL_law_593 : decode cL_law 593 = .ok (.if_icmp .eq 196, 3) := dec_of dT_L_law_350_ok 25 rfl
theorem dL_law_596 : decode cL_law 596 = .ok (.iconst 0, 1) := dec_of dT_L_law_350_ok 26 rfl
theorem dL_law_597 : decode cL_law 597 = .ok (.ireturn, 1) := dec_of dT_L_law_350_ok 27 rfl
theorem dL_law_598 : decode cL_law 598 = .ok (.aload_n 1, 1) := dec_of dT_L_law_350_ok 28 rfl
theorem dL_law_599 : decode cL_law 599 = .ok (.aload_n 0, 1) := dec_of dT_L_law_350_ok 29 rfl
theorem dL_law_600 : decode cL_law 600 = .ok (.iload_n 3, 1) := dec_of dT_L_law_350_ok 30 rfl
theorem dL_law_601 : decode cL_law 601 = .ok (.iconst 1, 1) := dec_of dT_L_law_350_ok 31 rfl
theorem dL_law_602 : decode cL_law 602 = .ok (.iadd, 1) := dec_of dT_L_law_350_ok 32 rfl
theorem dL_law_603 : decode cL_law 603 = .ok (.iaload, 1) := dec_of dT_L_law_350_ok 33 rfl
theorem dL_law_604 : decode cL_law 604 = .ok (.invokevirtual 85, 3) := dec_of dT_L_law_350_ok 34 rfl
def dT_L_law_385 : List (Nat × Instr × Nat) := [(607, .pop, 1), (608, .aload_n 2, 1), (609, .aload_n 0, 1), (610, .iload_n 3, 1), (611, .iconst 1, 1), (612, .iadd, 1), (613, .iaload, 1), (614, .invokevirtual 88, 3), (617, .pop, 1), (618, .goto 171, 3), (621, .aload_n 1, 1), (622, .aload_n 0, 1), (623, .iload_n 3, 1), (624, .iconst 1, 1), (625, .iadd, 1), (626, .iaload, 1), (627, .aload_n 0, 1), (628, .iload_n 3, 1), (629, .iconst 2, 1), (630, .iadd, 1), (631, .iaload, 1), (632, .aload_n 0, 1), (633, .iload_n 3, 1), (634, .iconst 3, 1), (635, .iadd, 1), (636, .iaload, 1), (637, .aload_n 0, 1), (638, .iload_n 3, 1), (639, .iconst 4, 1), (640, .iadd, 1), (641, .iaload, 1), (642, .invokevirtual 89, 3), (645, .pop2, 1), (646, .aload_n 2, 1), (647, .aload_n 0, 1)]
theorem dT_L_law_385_ok : (dT_L_law_385.all fun e => decide (decode cL_law e.1 = .ok (e.2.1, e.2.2))) = true := by decide +kernel
theorem dL_law_607 : decode cL_law 607 = .ok (.pop, 1) := dec_of dT_L_law_385_ok 0 rfl
theorem dL_law_608 : decode cL_law 608 = .ok (.aload_n 2, 1) := dec_of dT_L_law_385_ok 1 rfl
theorem dL_law_609 : decode cL_law 609 = .ok (.aload_n 0, 1) := dec_of dT_L_law_385_ok 2 rfl
theorem dL_law_610 : decode cL_law 610 = .ok (.iload_n 3, 1) := dec_of dT_L_law_385_ok 3 rfl
theorem dL_law_611 : decode cL_law 611 = .ok (.iconst 1, 1) := dec_of dT_L_law_385_ok 4 rfl
theorem dL_law_612 : decode cL_law 612 = .ok (.iadd, 1) := dec_of dT_L_law_385_ok 5 rfl
theorem dL_law_613 : decode cL_law 613 = .ok (.iaload, 1) := dec_of dT_L_law_385_ok 6 rfl
theorem dL_law_614 : decode cL_law 614 = .ok (.invokevirtual 88, 3) := dec_of dT_L_law_385_ok 7 rfl
theorem dL_law_617 : decode cL_law 617 = .ok (.pop, 1) := dec_of dT_L_law_385_ok 8 rfl
theorem dL_law_618 : decode cL_law 618 = .ok (.goto 171, 3) := dec_of dT_L_law_385_ok 9 rfl
theorem dL_law_621 : decode cL_law 621 = .ok (.aload_n 1, 1) := dec_of dT_L_law_385_ok 10 rfl
theorem dL_law_622 : decode cL_law 622 = .ok (.aload_n 0, 1) := dec_of dT_L_law_385_ok 11 rfl
theorem dL_law_623 : decode cL_law 623 = .ok (.iload_n 3, 1) := dec_of dT_L_law_385_ok 12 rfl
theorem dL_law_624 : decode cL_law 624 = .ok (.iconst 1, 1) := dec_of dT_L_law_385_ok 13 rfl
theorem dL_law_625 : decode cL_law 625 = .ok (.iadd, 1) := dec_of dT_L_law_385_ok 14 rfl
theorem dL_law_626 : decode cL_law 626 = .ok (.iaload, 1) := dec_of dT_L_law_385_ok 15 rfl
theorem dL_law_627 : decode cL_law 627 = .ok (.aload_n 0, 1) := dec_of dT_L_law_385_ok 16 rfl
theorem dL_law_628 : decode cL_law 628 = .ok (.iload_n 3, 1) := dec_of dT_L_law_385_ok 17 rfl
theorem dL_law_629 : decode cL_law 629 = .ok (.iconst 2, 1) := dec_of dT_L_law_385_ok 18 rfl
theorem dL_law_630 : decode cL_law 630 = .ok (.iadd, 1) := dec_of dT_L_law_385_ok 19 rfl
theorem dL_law_631 : decode cL_law 631 = .ok (.iaload, 1) := dec_of dT_L_law_385_ok 20 rfl
theorem dL_law_632 : decode cL_law 632 = .ok (.aload_n 0, 1) := dec_of dT_L_law_385_ok 21 rfl
theorem dL_law_633 : decode cL_law 633 = .ok (.iload_n 3, 1) := dec_of dT_L_law_385_ok 22 rfl
theorem dL_law_634 : decode cL_law 634 = .ok (.iconst 3, 1) := dec_of dT_L_law_385_ok 23 rfl
theorem dL_law_635 : decode cL_law 635 = .ok (.iadd, 1) := dec_of dT_L_law_385_ok 24 rfl
theorem dL_law_636 : decode cL_law 636 = .ok (.iaload, 1) := dec_of dT_L_law_385_ok 25 rfl
theorem dL_law_637 : decode cL_law 637 = .ok (.aload_n 0, 1) := dec_of dT_L_law_385_ok 26 rfl
theorem dL_law_638 : decode cL_law 638 = .ok (.iload_n 3, 1) := dec_of dT_L_law_385_ok 27 rfl
theorem dL_law_639 : decode cL_law 639 = .ok (.iconst 4, 1) := dec_of dT_L_law_385_ok 28 rfl
theorem dL_law_640 : decode cL_law 640 = .ok (.iadd, 1) := dec_of dT_L_law_385_ok 29 rfl
theorem dL_law_641 : decode cL_law 641 = .ok (.iaload, 1) := dec_of dT_L_law_385_ok 30 rfl
theorem dL_law_642 : decode cL_law 642 = .ok (.invokevirtual 89, 3) := dec_of dT_L_law_385_ok 31 rfl
theorem dL_law_645 : decode cL_law 645 = .ok (.pop2, 1) := dec_of dT_L_law_385_ok 32 rfl
theorem dL_law_646 : decode cL_law 646 = .ok (.aload_n 2, 1) := dec_of dT_L_law_385_ok 33 rfl
theorem dL_law_647 : decode cL_law 647 = .ok (.aload_n 0, 1) := dec_of dT_L_law_385_ok 34 rfl
