/-! methods' words and links -/
set_option maxRecDepth 50000 in
theorem yoX10_init : XY yX10_init cX10_init 1 none 0 2 := ⟨List.mem_of_getElem? (i := 155) rfl, x_in 130 (by decide +kernel) rfl, by decide +kernel, fun h => absurd h (by decide), fun h => absurd h (by decide), fun _ => ⟨x_in 154 (by decide +kernel) rfl, rfl⟩⟩
set_option maxRecDepth 50000 in
theorem yoX8_init : XY yX8_init cX8_init 1 none 0 2 := ⟨List.mem_of_getElem? (i := 163) rfl, x_in 131 (by decide +kernel) rfl, by decide +kernel, fun h => absurd h (by decide), fun h => absurd h (by decide), fun _ => ⟨x_in 162 (by decide +kernel) rfl, rfl⟩⟩
set_option maxRecDepth 50000 in
theorem yoX2_init : XY yX2_init cX2_init 2 none 1 2 := ⟨List.mem_of_getElem? (i := 182) rfl, x_in 132 (by decide +kernel) rfl, by decide +kernel, fun h => absurd h (by decide), fun h => absurd h (by decide), fun _ => ⟨x_in 181 (by decide +kernel) rfl, rfl⟩⟩
set_option maxRecDepth 50000 in
theorem yoX7_init : XY yX7_init cX7_init 3 none 2 2 := ⟨List.mem_of_getElem? (i := 244) rfl, x_in 133 (by decide +kernel) rfl, by decide +kernel, fun h => absurd h (by decide), fun h => absurd h (by decide), fun _ => ⟨x_in 243 (by decide +kernel) rfl, rfl⟩⟩
set_option maxRecDepth 50000 in
theorem yoX6_init : XY yX6_init cX6_init 3 none 2 2 := ⟨List.mem_of_getElem? (i := 250) rfl, x_in 134 (by decide +kernel) rfl, by decide +kernel, fun h => absurd h (by decide), fun h => absurd h (by decide), fun _ => ⟨x_in 249 (by decide +kernel) rfl, rfl⟩⟩
set_option maxRecDepth 50000 in
theorem yoX3_init : XY yX3_init cX3_init 1 none 0 2 := ⟨List.mem_of_getElem? (i := 270) rfl, x_in 135 (by decide +kernel) rfl, by decide +kernel, fun h => absurd h (by decide), fun h => absurd h (by decide), fun _ => ⟨x_in 269 (by decide +kernel) rfl, rfl⟩⟩
set_option maxRecDepth 50000 in
theorem yoX4_init : XY yX4_init cX4_init 5 none 4 2 := ⟨List.mem_of_getElem? (i := 293) rfl, x_in 136 (by decide +kernel) rfl, by decide +kernel, fun h => absurd h (by decide), fun h => absurd h (by decide), fun _ => ⟨x_in 292 (by decide +kernel) rfl, rfl⟩⟩
set_option maxRecDepth 50000 in
theorem yoX1_init : XY yX1_init cX1_init 2 none 1 2 := ⟨List.mem_of_getElem? (i := 299) rfl, x_in 137 (by decide +kernel) rfl, by decide +kernel, fun h => absurd h (by decide), fun h => absurd h (by decide), fun _ => ⟨x_in 298 (by decide +kernel) rfl, rfl⟩⟩
set_option maxRecDepth 50000 in
theorem yoX10_reset : XY yX10_reset cX10_reset 1 none 0 1 := ⟨List.mem_of_getElem? (i := 389) rfl, x_in 130 (by decide +kernel) rfl, by decide +kernel, fun h => absurd h (by decide), fun _ => ⟨x_in 387 (by decide +kernel) rfl, x_in 388 (by decide +kernel) rfl⟩, fun h => absurd h (by decide)⟩
set_option maxRecDepth 50000 in
theorem yoX7_startAnew : XY yX7_startAnew cX7_startAnew 1 none 0 1 := ⟨List.mem_of_getElem? (i := 393) rfl, x_in 133 (by decide +kernel) rfl, by decide +kernel, fun h => absurd h (by decide), fun _ => ⟨x_in 391 (by decide +kernel) rfl, x_in 392 (by decide +kernel) rfl⟩, fun h => absurd h (by decide)⟩
set_option maxRecDepth 50000 in
theorem yoX8_changeStatus : XY yX8_changeStatus cX8_changeStatus 4 none 1 1 := ⟨List.mem_of_getElem? (i := 397) rfl, x_in 131 (by decide +kernel) rfl, by decide +kernel, fun h => absurd h (by decide), fun _ => ⟨x_in 395 (by decide +kernel) rfl, x_in 396 (by decide +kernel) rfl⟩, fun h => absurd h (by decide)⟩
set_option maxRecDepth 50000 in
theorem yoX2_clearError : XY yX2_clearError cX2_clearError 1 none 0 1 := ⟨List.mem_of_getElem? (i := 402) rfl, x_in 132 (by decide +kernel) rfl, by decide +kernel, fun h => absurd h (by decide), fun _ => ⟨x_in 400 (by decide +kernel) rfl, x_in 401 (by decide +kernel) rfl⟩, fun h => absurd h (by decide)⟩
set_option maxRecDepth 50000 in
theorem yoX2_read : XY yX2_read cX2_read 8 (some .int) 3 1 := ⟨List.mem_of_getElem? (i := 406) rfl, x_in 132 (by decide +kernel) rfl, by decide +kernel, fun h => absurd h (by decide), fun _ => ⟨x_in 404 (by decide +kernel) rfl, x_in 405 (by decide +kernel) rfl⟩, fun h => absurd h (by decide)⟩
set_option maxRecDepth 50000 in
theorem yoX10_bytesOf : XY yX10_bytesOf cX10_bytesOf 1 (some .int) 1 0 := ⟨List.mem_of_getElem? (i := 410) rfl, x_in 130 (by decide +kernel) rfl, by decide +kernel, fun _ => x_in 409 (by decide +kernel) rfl, fun h => absurd h (by decide), fun h => absurd h (by decide)⟩
set_option maxRecDepth 50000 in
theorem yoX2_allows : XY yX2_allows cX2_allows 8 (some .boolean) 3 1 := ⟨List.mem_of_getElem? (i := 414) rfl, x_in 132 (by decide +kernel) rfl, by decide +kernel, fun h => absurd h (by decide), fun _ => ⟨x_in 413 (by decide +kernel) rfl, x_in 0 (by decide +kernel) rfl⟩, fun h => absurd h (by decide)⟩
set_option maxRecDepth 50000 in
theorem yoX2_readByte : XY yX2_readByte cX2_readByte 3 (some .int) 1 1 := ⟨List.mem_of_getElem? (i := 418) rfl, x_in 132 (by decide +kernel) rfl, by decide +kernel, fun h => absurd h (by decide), fun _ => ⟨x_in 417 (by decide +kernel) rfl, x_in 1 (by decide +kernel) rfl⟩, fun h => absurd h (by decide)⟩
set_option maxRecDepth 50000 in
theorem yoX2_quietTimer : XY yX2_quietTimer cX2_quietTimer 1 none 0 1 := ⟨List.mem_of_getElem? (i := 422) rfl, x_in 132 (by decide +kernel) rfl, by decide +kernel, fun h => absurd h (by decide), fun _ => ⟨x_in 420 (by decide +kernel) rfl, x_in 421 (by decide +kernel) rfl⟩, fun h => absurd h (by decide)⟩
set_option maxRecDepth 50000 in
theorem yoX10_type : XY yX10_type cX10_type 2 (some .boolean) 1 1 := ⟨List.mem_of_getElem? (i := 426) rfl, x_in 130 (by decide +kernel) rfl, by decide +kernel, fun h => absurd h (by decide), fun _ => ⟨x_in 424 (by decide +kernel) rfl, x_in 425 (by decide +kernel) rfl⟩, fun h => absurd h (by decide)⟩
set_option maxRecDepth 50000 in
theorem yoX2_enqueue : XY yX2_enqueue cX2_enqueue 2 (some .boolean) 1 1 := ⟨List.mem_of_getElem? (i := 430) rfl, x_in 132 (by decide +kernel) rfl, by decide +kernel, fun h => absurd h (by decide), fun _ => ⟨x_in 428 (by decide +kernel) rfl, x_in 429 (by decide +kernel) rfl⟩, fun h => absurd h (by decide)⟩
set_option maxRecDepth 50000 in
theorem yoX10_said : XY yX10_said cX10_said 2 (some .int) 1 1 := ⟨List.mem_of_getElem? (i := 434) rfl, x_in 130 (by decide +kernel) rfl, by decide +kernel, fun h => absurd h (by decide), fun _ => ⟨x_in 432 (by decide +kernel) rfl, x_in 433 (by decide +kernel) rfl⟩, fun h => absurd h (by decide)⟩
set_option maxRecDepth 50000 in
theorem yoX10_memory : XY yX10_memory cX10_memory 2 (some .int) 1 1 := ⟨List.mem_of_getElem? (i := 438) rfl, x_in 130 (by decide +kernel) rfl, by decide +kernel, fun h => absurd h (by decide), fun _ => ⟨x_in 436 (by decide +kernel) rfl, x_in 437 (by decide +kernel) rfl⟩, fun h => absurd h (by decide)⟩
set_option maxRecDepth 50000 in
theorem yoX10_state : XY yX10_state cX10_state 1 (some .int) 0 1 := ⟨List.mem_of_getElem? (i := 442) rfl, x_in 130 (by decide +kernel) rfl, by decide +kernel, fun h => absurd h (by decide), fun _ => ⟨x_in 440 (by decide +kernel) rfl, x_in 441 (by decide +kernel) rfl⟩, fun h => absurd h (by decide)⟩
set_option maxRecDepth 50000 in
theorem yoX10_counted : XY yX10_counted cX10_counted 2 (some .int) 1 1 := ⟨List.mem_of_getElem? (i := 446) rfl, x_in 130 (by decide +kernel) rfl, by decide +kernel, fun h => absurd h (by decide), fun _ => ⟨x_in 444 (by decide +kernel) rfl, x_in 445 (by decide +kernel) rfl⟩, fun h => absurd h (by decide)⟩
set_option maxRecDepth 50000 in
theorem yoX10_put : XY yX10_put cX10_put 3 none 2 1 := ⟨List.mem_of_getElem? (i := 454) rfl, x_in 130 (by decide +kernel) rfl, by decide +kernel, fun h => absurd h (by decide), fun _ => ⟨x_in 452 (by decide +kernel) rfl, x_in 453 (by decide +kernel) rfl⟩, fun h => absurd h (by decide)⟩
set_option maxRecDepth 50000 in
theorem yoX10_isPlaceOfWords : XY yX10_isPlaceOfWords cX10_isPlaceOfWords 2 (some .boolean) 2 0 := ⟨List.mem_of_getElem? (i := 457) rfl, x_in 130 (by decide +kernel) rfl, by decide +kernel, fun _ => x_in 456 (by decide +kernel) rfl, fun h => absurd h (by decide), fun h => absurd h (by decide)⟩
set_option maxRecDepth 50000 in
theorem yoX2_store : XY yX2_store cX2_store 3 none 2 1 := ⟨List.mem_of_getElem? (i := 524) rfl, x_in 132 (by decide +kernel) rfl, by decide +kernel, fun h => absurd h (by decide), fun _ => ⟨x_in 522 (by decide +kernel) rfl, x_in 523 (by decide +kernel) rfl⟩, fun h => absurd h (by decide)⟩
set_option maxRecDepth 50000 in
theorem yoX10_fill : XY yX10_fill cX10_fill 6 none 3 1 := ⟨List.mem_of_getElem? (i := 532) rfl, x_in 130 (by decide +kernel) rfl, by decide +kernel, fun h => absurd h (by decide), fun _ => ⟨x_in 530 (by decide +kernel) rfl, x_in 531 (by decide +kernel) rfl⟩, fun h => absurd h (by decide)⟩
set_option maxRecDepth 50000 in
theorem yoX10_fence : XY yX10_fence cX10_fence 2 none 1 1 := ⟨List.mem_of_getElem? (i := 554) rfl, x_in 130 (by decide +kernel) rfl, by decide +kernel, fun h => absurd h (by decide), fun _ => ⟨x_in 552 (by decide +kernel) rfl, x_in 553 (by decide +kernel) rfl⟩, fun h => absurd h (by decide)⟩
set_option maxRecDepth 50000 in
theorem yoX10_step : XY yX10_step cX10_step 1 (some .int) 0 1 := ⟨List.mem_of_getElem? (i := 562) rfl, x_in 130 (by decide +kernel) rfl, by decide +kernel, fun h => absurd h (by decide), fun _ => ⟨x_in 560 (by decide +kernel) rfl, x_in 561 (by decide +kernel) rfl⟩, fun h => absurd h (by decide)⟩
set_option maxRecDepth 50000 in
theorem yoX7_advance : XY yX7_advance cX7_advance 4 (some .int) 0 1 := ⟨List.mem_of_getElem? (i := 581) rfl, x_in 133 (by decide +kernel) rfl, by decide +kernel, fun h => absurd h (by decide), fun _ => ⟨x_in 579 (by decide +kernel) rfl, x_in 580 (by decide +kernel) rfl⟩, fun h => absurd h (by decide)⟩
set_option maxRecDepth 50000 in
theorem yoX7_maskOfLevels : XY yX7_maskOfLevels cX7_maskOfLevels 1 (some .int) 0 1 := ⟨List.mem_of_getElem? (i := 588) rfl, x_in 133 (by decide +kernel) rfl, by decide +kernel, fun h => absurd h (by decide), fun _ => ⟨x_in 587 (by decide +kernel) rfl, x_in 3 (by decide +kernel) rfl⟩, fun h => absurd h (by decide)⟩
set_option maxRecDepth 50000 in
theorem yoX7_interrupt : XY yX7_interrupt cX7_interrupt 2 (some .int) 1 1 := ⟨List.mem_of_getElem? (i := 592) rfl, x_in 133 (by decide +kernel) rfl, by decide +kernel, fun h => absurd h (by decide), fun _ => ⟨x_in 591 (by decide +kernel) rfl, x_in 4 (by decide +kernel) rfl⟩, fun h => absurd h (by decide)⟩
set_option maxRecDepth 50000 in
theorem yoX7_workOff : XY yX7_workOff cX7_workOff 2 none 1 1 := ⟨List.mem_of_getElem? (i := 596) rfl, x_in 133 (by decide +kernel) rfl, by decide +kernel, fun h => absurd h (by decide), fun _ => ⟨x_in 595 (by decide +kernel) rfl, x_in 5 (by decide +kernel) rfl⟩, fun h => absurd h (by decide)⟩
set_option maxRecDepth 50000 in
theorem yoX7_enters : XY yX7_enters cX7_enters 6 (some .boolean) 1 1 := ⟨List.mem_of_getElem? (i := 600) rfl, x_in 133 (by decide +kernel) rfl, by decide +kernel, fun h => absurd h (by decide), fun _ => ⟨x_in 599 (by decide +kernel) rfl, x_in 6 (by decide +kernel) rfl⟩, fun h => absurd h (by decide)⟩
set_option maxRecDepth 50000 in
theorem yoX8_keep : XY yX8_keep cX8_keep 1 none 0 1 := ⟨List.mem_of_getElem? (i := 604) rfl, x_in 131 (by decide +kernel) rfl, by decide +kernel, fun h => absurd h (by decide), fun _ => ⟨x_in 602 (by decide +kernel) rfl, x_in 603 (by decide +kernel) rfl⟩, fun h => absurd h (by decide)⟩
set_option maxRecDepth 50000 in
theorem yoX6_push : XY yX6_push cX6_push 3 none 2 1 := ⟨List.mem_of_getElem? (i := 611) rfl, x_in 134 (by decide +kernel) rfl, by decide +kernel, fun h => absurd h (by decide), fun _ => ⟨x_in 609 (by decide +kernel) rfl, x_in 610 (by decide +kernel) rfl⟩, fun h => absurd h (by decide)⟩
set_option maxRecDepth 50000 in
theorem yoX2_write : XY yX2_write cX2_write 7 none 3 1 := ⟨List.mem_of_getElem? (i := 616) rfl, x_in 132 (by decide +kernel) rfl, by decide +kernel, fun h => absurd h (by decide), fun _ => ⟨x_in 614 (by decide +kernel) rfl, x_in 615 (by decide +kernel) rfl⟩, fun h => absurd h (by decide)⟩
set_option maxRecDepth 50000 in
theorem yoX2_writeByte : XY yX2_writeByte cX2_writeByte 3 none 2 1 := ⟨List.mem_of_getElem? (i := 620) rfl, x_in 132 (by decide +kernel) rfl, by decide +kernel, fun h => absurd h (by decide), fun _ => ⟨x_in 619 (by decide +kernel) rfl, x_in 7 (by decide +kernel) rfl⟩, fun h => absurd h (by decide)⟩
set_option maxRecDepth 50000 in
theorem yoX7_isOfGroupZero : XY yX7_isOfGroupZero cX7_isOfGroupZero 1 (some .boolean) 1 0 := ⟨List.mem_of_getElem? (i := 624) rfl, x_in 133 (by decide +kernel) rfl, by decide +kernel, fun _ => x_in 623 (by decide +kernel) rfl, fun h => absurd h (by decide), fun h => absurd h (by decide)⟩
set_option maxRecDepth 50000 in
theorem yoX8_takeBack : XY yX8_takeBack cX8_takeBack 1 none 0 1 := ⟨List.mem_of_getElem? (i := 628) rfl, x_in 131 (by decide +kernel) rfl, by decide +kernel, fun h => absurd h (by decide), fun _ => ⟨x_in 626 (by decide +kernel) rfl, x_in 627 (by decide +kernel) rfl⟩, fun h => absurd h (by decide)⟩
set_option maxRecDepth 50000 in
theorem yoX7_begin : XY yX7_begin cX7_begin 2 (some (.object "SupervisorMachine$Op")) 0 1 := ⟨List.mem_of_getElem? (i := 632) rfl, x_in 133 (by decide +kernel) rfl, by decide +kernel, fun h => absurd h (by decide), fun _ => ⟨x_in 631 (by decide +kernel) rfl, x_in 8 (by decide +kernel) rfl⟩, fun h => absurd h (by decide)⟩
set_option maxRecDepth 50000 in
theorem yoX8_has : XY yX8_has cX8_has 2 (some .boolean) 1 1 := ⟨List.mem_of_getElem? (i := 637) rfl, x_in 131 (by decide +kernel) rfl, by decide +kernel, fun h => absurd h (by decide), fun _ => ⟨x_in 635 (by decide +kernel) rfl, x_in 636 (by decide +kernel) rfl⟩, fun h => absurd h (by decide)⟩
set_option maxRecDepth 50000 in
theorem yoX6_fetch : XY yX6_fetch cX6_fetch 4 (some .int) 1 1 := ⟨List.mem_of_getElem? (i := 641) rfl, x_in 134 (by decide +kernel) rfl, by decide +kernel, fun h => absurd h (by decide), fun _ => ⟨x_in 639 (by decide +kernel) rfl, x_in 640 (by decide +kernel) rfl⟩, fun h => absurd h (by decide)⟩
set_option maxRecDepth 50000 in
theorem yoX3_decode : XY yX3_decode cX3_decode 2 (some (.object "SupervisorMachine$Op")) 1 1 := ⟨List.mem_of_getElem? (i := 648) rfl, x_in 135 (by decide +kernel) rfl, by decide +kernel, fun h => absurd h (by decide), fun _ => ⟨x_in 646 (by decide +kernel) rfl, x_in 647 (by decide +kernel) rfl⟩, fun h => absurd h (by decide)⟩
set_option maxRecDepth 50000 in
theorem yoX3_moving : XY yX3_moving cX3_moving 4 (some (.object "SupervisorMachine$Op")) 0 1 := ⟨List.mem_of_getElem? (i := 652) rfl, x_in 135 (by decide +kernel) rfl, by decide +kernel, fun h => absurd h (by decide), fun _ => ⟨x_in 651 (by decide +kernel) rfl, x_in 9 (by decide +kernel) rfl⟩, fun h => absurd h (by decide)⟩
set_option maxRecDepth 50000 in
theorem yoX3_operand : XY yX3_operand cX3_operand 1 (some .int) 0 1 := ⟨List.mem_of_getElem? (i := 656) rfl, x_in 135 (by decide +kernel) rfl, by decide +kernel, fun h => absurd h (by decide), fun _ => ⟨x_in 655 (by decide +kernel) rfl, x_in 10 (by decide +kernel) rfl⟩, fun h => absurd h (by decide)⟩
set_option maxRecDepth 50000 in
theorem yoX9_isAny : XY yX9_isAny cX9_isAny 3 (some .boolean) 2 0 := ⟨List.mem_of_getElem? (i := 659) rfl, x_in 149 (by decide +kernel) rfl, by decide +kernel, fun _ => x_in 658 (by decide +kernel) rfl, fun h => absurd h (by decide), fun h => absurd h (by decide)⟩
set_option maxRecDepth 50000 in
theorem yoX9_of : XY yX9_of cX9_of 2 (some .int) 1 0 := ⟨List.mem_of_getElem? (i := 662) rfl, x_in 149 (by decide +kernel) rfl, by decide +kernel, fun _ => x_in 661 (by decide +kernel) rfl, fun h => absurd h (by decide), fun h => absurd h (by decide)⟩
set_option maxRecDepth 50000 in
theorem yoX9_isOpen : XY yX9_isOpen cX9_isOpen 1 (some .boolean) 1 0 := ⟨List.mem_of_getElem? (i := 665) rfl, x_in 149 (by decide +kernel) rfl, by decide +kernel, fun _ => x_in 664 (by decide +kernel) rfl, fun h => absurd h (by decide), fun h => absurd h (by decide)⟩
set_option maxRecDepth 50000 in
theorem yoX3_isAddressRegister : XY yX3_isAddressRegister cX3_isAddressRegister 1 (some .boolean) 1 0 := ⟨List.mem_of_getElem? (i := 668) rfl, x_in 135 (by decide +kernel) rfl, by decide +kernel, fun _ => x_in 667 (by decide +kernel) rfl, fun h => absurd h (by decide), fun h => absurd h (by decide)⟩
set_option maxRecDepth 50000 in
theorem yoX3_pair : XY yX3_pair cX3_pair 6 (some (.object "SupervisorMachine$Op")) 5 1 := ⟨List.mem_of_getElem? (i := 677) rfl, x_in 135 (by decide +kernel) rfl, by decide +kernel, fun h => absurd h (by decide), fun _ => ⟨x_in 676 (by decide +kernel) rfl, x_in 11 (by decide +kernel) rfl⟩, fun h => absurd h (by decide)⟩
set_option maxRecDepth 50000 in
theorem yoX3_ofGroupThree : XY yX3_ofGroupThree cX3_ofGroupThree 3 (some (.object "SupervisorMachine$Op")) 0 1 := ⟨List.mem_of_getElem? (i := 683) rfl, x_in 135 (by decide +kernel) rfl, by decide +kernel, fun h => absurd h (by decide), fun _ => ⟨x_in 682 (by decide +kernel) rfl, x_in 12 (by decide +kernel) rfl⟩, fun h => absurd h (by decide)⟩
set_option maxRecDepth 50000 in
theorem yoX9_isOpenData : XY yX9_isOpenData cX9_isOpenData 2 (some .boolean) 1 0 := ⟨List.mem_of_getElem? (i := 686) rfl, x_in 149 (by decide +kernel) rfl, by decide +kernel, fun _ => x_in 685 (by decide +kernel) rfl, fun h => absurd h (by decide), fun h => absurd h (by decide)⟩
set_option maxRecDepth 50000 in
theorem yoX3_single : XY yX3_single cX3_single 4 (some (.object "SupervisorMachine$Op")) 3 1 := ⟨List.mem_of_getElem? (i := 692) rfl, x_in 135 (by decide +kernel) rfl, by decide +kernel, fun h => absurd h (by decide), fun _ => ⟨x_in 691 (by decide +kernel) rfl, x_in 13 (by decide +kernel) rfl⟩, fun h => absurd h (by decide)⟩
set_option maxRecDepth 50000 in
theorem yoX9_isData : XY yX9_isData cX9_isData 2 (some .boolean) 1 0 := ⟨List.mem_of_getElem? (i := 701) rfl, x_in 149 (by decide +kernel) rfl, by decide +kernel, fun _ => x_in 700 (by decide +kernel) rfl, fun h => absurd h (by decide), fun h => absurd h (by decide)⟩
set_option maxRecDepth 50000 in
theorem yoX3_mode : XY yX3_mode cX3_mode 1 (some .int) 0 1 := ⟨List.mem_of_getElem? (i := 717) rfl, x_in 135 (by decide +kernel) rfl, by decide +kernel, fun h => absurd h (by decide), fun _ => ⟨x_in 716 (by decide +kernel) rfl, x_in 14 (by decide +kernel) rfl⟩, fun h => absurd h (by decide)⟩
set_option maxRecDepth 50000 in
theorem yoX9_isControl : XY yX9_isControl cX9_isControl 2 (some .boolean) 1 0 := ⟨List.mem_of_getElem? (i := 724) rfl, x_in 149 (by decide +kernel) rfl, by decide +kernel, fun _ => x_in 723 (by decide +kernel) rfl, fun h => absurd h (by decide), fun h => absurd h (by decide)⟩
set_option maxRecDepth 50000 in
theorem yoX3_isRowToStore : XY yX3_isRowToStore cX3_isRowToStore 1 (some .boolean) 0 1 := ⟨List.mem_of_getElem? (i := 732) rfl, x_in 135 (by decide +kernel) rfl, by decide +kernel, fun h => absurd h (by decide), fun _ => ⟨x_in 731 (by decide +kernel) rfl, x_in 15 (by decide +kernel) rfl⟩, fun h => absurd h (by decide)⟩
set_option maxRecDepth 50000 in
theorem yoX3_isRowToLoad : XY yX3_isRowToLoad cX3_isRowToLoad 1 (some .boolean) 0 1 := ⟨List.mem_of_getElem? (i := 738) rfl, x_in 135 (by decide +kernel) rfl, by decide +kernel, fun h => absurd h (by decide), fun _ => ⟨x_in 737 (by decide +kernel) rfl, x_in 16 (by decide +kernel) rfl⟩, fun h => absurd h (by decide)⟩
set_option maxRecDepth 50000 in
theorem yoX3_withoutOperands : XY yX3_withoutOperands cX3_withoutOperands 1 (some (.object "SupervisorMachine$Op")) 0 1 := ⟨List.mem_of_getElem? (i := 746) rfl, x_in 135 (by decide +kernel) rfl, by decide +kernel, fun h => absurd h (by decide), fun _ => ⟨x_in 745 (by decide +kernel) rfl, x_in 17 (by decide +kernel) rfl⟩, fun h => absurd h (by decide)⟩
set_option maxRecDepth 50000 in
theorem yoX3_ofLastEight : XY yX3_ofLastEight cX3_ofLastEight 1 (some (.object "SupervisorMachine$Op")) 0 1 := ⟨List.mem_of_getElem? (i := 760) rfl, x_in 135 (by decide +kernel) rfl, by decide +kernel, fun h => absurd h (by decide), fun _ => ⟨x_in 759 (by decide +kernel) rfl, x_in 18 (by decide +kernel) rfl⟩, fun h => absurd h (by decide)⟩
set_option maxRecDepth 50000 in
theorem yoX3_lowerRegister : XY yX3_lowerRegister cX3_lowerRegister 1 (some .int) 0 1 := ⟨List.mem_of_getElem? (i := 764) rfl, x_in 135 (by decide +kernel) rfl, by decide +kernel, fun h => absurd h (by decide), fun _ => ⟨x_in 762 (by decide +kernel) rfl, x_in 763 (by decide +kernel) rfl⟩, fun h => absurd h (by decide)⟩
set_option maxRecDepth 50000 in
theorem yoX3_summing : XY yX3_summing cX3_summing 5 (some (.object "SupervisorMachine$Op")) 3 1 := ⟨List.mem_of_getElem? (i := 787) rfl, x_in 135 (by decide +kernel) rfl, by decide +kernel, fun h => absurd h (by decide), fun _ => ⟨x_in 786 (by decide +kernel) rfl, x_in 19 (by decide +kernel) rfl⟩, fun h => absurd h (by decide)⟩
set_option maxRecDepth 50000 in
theorem yoX3_upperRegister : XY yX3_upperRegister cX3_upperRegister 1 (some .int) 0 1 := ⟨List.mem_of_getElem? (i := 791) rfl, x_in 135 (by decide +kernel) rfl, by decide +kernel, fun h => absurd h (by decide), fun _ => ⟨x_in 789 (by decide +kernel) rfl, x_in 790 (by decide +kernel) rfl⟩, fun h => absurd h (by decide)⟩
set_option maxRecDepth 50000 in
theorem yoX3_z : XY yX3_z cX3_z 1 (some .int) 0 1 := ⟨List.mem_of_getElem? (i := 795) rfl, x_in 135 (by decide +kernel) rfl, by decide +kernel, fun h => absurd h (by decide), fun _ => ⟨x_in 793 (by decide +kernel) rfl, x_in 794 (by decide +kernel) rfl⟩, fun h => absurd h (by decide)⟩
set_option maxRecDepth 50000 in
theorem yoX3_withAddress : XY yX3_withAddress cX3_withAddress 3 (some (.object "SupervisorMachine$Op")) 1 1 := ⟨List.mem_of_getElem? (i := 799) rfl, x_in 135 (by decide +kernel) rfl, by decide +kernel, fun h => absurd h (by decide), fun _ => ⟨x_in 798 (by decide +kernel) rfl, x_in 20 (by decide +kernel) rfl⟩, fun h => absurd h (by decide)⟩
set_option maxRecDepth 50000 in
theorem yoX3_bit8 : XY yX3_bit8 cX3_bit8 1 (some .int) 0 1 := ⟨List.mem_of_getElem? (i := 803) rfl, x_in 135 (by decide +kernel) rfl, by decide +kernel, fun h => absurd h (by decide), fun _ => ⟨x_in 801 (by decide +kernel) rfl, x_in 802 (by decide +kernel) rfl⟩, fun h => absurd h (by decide)⟩
set_option maxRecDepth 50000 in
theorem yoX9_before : XY yX9_before cX9_before 1 (some .int) 1 0 := ⟨List.mem_of_getElem? (i := 806) rfl, x_in 149 (by decide +kernel) rfl, by decide +kernel, fun _ => x_in 805 (by decide +kernel) rfl, fun h => absurd h (by decide), fun h => absurd h (by decide)⟩
set_option maxRecDepth 50000 in
theorem yoX9_isOpenMemory : XY yX9_isOpenMemory cX9_isOpenMemory 2 (some .boolean) 1 0 := ⟨List.mem_of_getElem? (i := 809) rfl, x_in 149 (by decide +kernel) rfl, by decide +kernel, fun _ => x_in 808 (by decide +kernel) rfl, fun h => absurd h (by decide), fun h => absurd h (by decide)⟩
set_option maxRecDepth 50000 in
theorem yoX3_comparing : XY yX3_comparing cX3_comparing 2 (some (.object "SupervisorMachine$Op")) 0 1 := ⟨List.mem_of_getElem? (i := 819) rfl, x_in 135 (by decide +kernel) rfl, by decide +kernel, fun h => absurd h (by decide), fun _ => ⟨x_in 818 (by decide +kernel) rfl, x_in 21 (by decide +kernel) rfl⟩, fun h => absurd h (by decide)⟩
set_option maxRecDepth 50000 in
theorem yoX9_behind : XY yX9_behind cX9_behind 1 (some .int) 1 0 := ⟨List.mem_of_getElem? (i := 826) rfl, x_in 149 (by decide +kernel) rfl, by decide +kernel, fun _ => x_in 825 (by decide +kernel) rfl, fun h => absurd h (by decide), fun h => absurd h (by decide)⟩
set_option maxRecDepth 50000 in
theorem yoX3_joining : XY yX3_joining cX3_joining 5 (some (.object "SupervisorMachine$Op")) 3 1 := ⟨List.mem_of_getElem? (i := 838) rfl, x_in 135 (by decide +kernel) rfl, by decide +kernel, fun h => absurd h (by decide), fun _ => ⟨x_in 837 (by decide +kernel) rfl, x_in 22 (by decide +kernel) rfl⟩, fun h => absurd h (by decide)⟩
set_option maxRecDepth 50000 in
theorem yoX3_exchanging : XY yX3_exchanging cX3_exchanging 2 (some (.object "SupervisorMachine$Op")) 0 1 := ⟨List.mem_of_getElem? (i := 842) rfl, x_in 135 (by decide +kernel) rfl, by decide +kernel, fun h => absurd h (by decide), fun _ => ⟨x_in 841 (by decide +kernel) rfl, x_in 23 (by decide +kernel) rfl⟩, fun h => absurd h (by decide)⟩
set_option maxRecDepth 50000 in
theorem yoX3_quick : XY yX3_quick cX3_quick 2 (some (.object "SupervisorMachine$Op")) 0 1 := ⟨List.mem_of_getElem? (i := 854) rfl, x_in 135 (by decide +kernel) rfl, by decide +kernel, fun h => absurd h (by decide), fun _ => ⟨x_in 853 (by decide +kernel) rfl, x_in 24 (by decide +kernel) rfl⟩, fun h => absurd h (by decide)⟩
set_option maxRecDepth 50000 in
theorem yoX3_byRegister : XY yX3_byRegister cX3_byRegister 1 (some (.object "SupervisorMachine$Op")) 0 1 := ⟨List.mem_of_getElem? (i := 870) rfl, x_in 135 (by decide +kernel) rfl, by decide +kernel, fun h => absurd h (by decide), fun _ => ⟨x_in 869 (by decide +kernel) rfl, x_in 25 (by decide +kernel) rfl⟩, fun h => absurd h (by decide)⟩
set_option maxRecDepth 50000 in
theorem yoX3_bits : XY yX3_bits cX3_bits 4 (some (.object "SupervisorMachine$Op")) 2 1 := ⟨List.mem_of_getElem? (i := 878) rfl, x_in 135 (by decide +kernel) rfl, by decide +kernel, fun h => absurd h (by decide), fun _ => ⟨x_in 877 (by decide +kernel) rfl, x_in 26 (by decide +kernel) rfl⟩, fun h => absurd h (by decide)⟩
set_option maxRecDepth 50000 in
theorem yoX3_byNumber : XY yX3_byNumber cX3_byNumber 1 (some (.object "SupervisorMachine$Op")) 0 1 := ⟨List.mem_of_getElem? (i := 882) rfl, x_in 135 (by decide +kernel) rfl, by decide +kernel, fun h => absurd h (by decide), fun _ => ⟨x_in 881 (by decide +kernel) rfl, x_in 27 (by decide +kernel) rfl⟩, fun h => absurd h (by decide)⟩
set_option maxRecDepth 50000 in
theorem yoX3_withNumber : XY yX3_withNumber cX3_withNumber 3 (some (.object "SupervisorMachine$Op")) 1 1 := ⟨List.mem_of_getElem? (i := 886) rfl, x_in 135 (by decide +kernel) rfl, by decide +kernel, fun h => absurd h (by decide), fun _ => ⟨x_in 885 (by decide +kernel) rfl, x_in 28 (by decide +kernel) rfl⟩, fun h => absurd h (by decide)⟩
set_option maxRecDepth 50000 in
theorem yoX3_shifting : XY yX3_shifting cX3_shifting 1 (some (.object "SupervisorMachine$Op")) 0 1 := ⟨List.mem_of_getElem? (i := 896) rfl, x_in 135 (by decide +kernel) rfl, by decide +kernel, fun h => absurd h (by decide), fun _ => ⟨x_in 895 (by decide +kernel) rfl, x_in 29 (by decide +kernel) rfl⟩, fun h => absurd h (by decide)⟩
set_option maxRecDepth 50000 in
theorem yoX3_ofGroupFourteen : XY yX3_ofGroupFourteen cX3_ofGroupFourteen 1 (some (.object "SupervisorMachine$Op")) 0 1 := ⟨List.mem_of_getElem? (i := 904) rfl, x_in 135 (by decide +kernel) rfl, by decide +kernel, fun h => absurd h (by decide), fun _ => ⟨x_in 903 (by decide +kernel) rfl, x_in 30 (by decide +kernel) rfl⟩, fun h => absurd h (by decide)⟩
set_option maxRecDepth 50000 in
theorem yoX4_perform : XY yX4_perform cX4_perform 2 none 1 1 := ⟨List.mem_of_getElem? (i := 918) rfl, x_in 136 (by decide +kernel) rfl, by decide +kernel, fun h => absurd h (by decide), fun _ => ⟨x_in 916 (by decide +kernel) rfl, x_in 917 (by decide +kernel) rfl⟩, fun h => absurd h (by decide)⟩
set_option maxRecDepth 50000 in
theorem yoX4_readSource : XY yX4_readSource cX4_readSource 1 (some .int) 0 1 := ⟨List.mem_of_getElem? (i := 930) rfl, x_in 136 (by decide +kernel) rfl, by decide +kernel, fun h => absurd h (by decide), fun _ => ⟨x_in 929 (by decide +kernel) rfl, x_in 31 (by decide +kernel) rfl⟩, fun h => absurd h (by decide)⟩
set_option maxRecDepth 50000 in
theorem yoX6_find : XY yX6_find cX6_find 6 none 2 1 := ⟨List.mem_of_getElem? (i := 934) rfl, x_in 134 (by decide +kernel) rfl, by decide +kernel, fun h => absurd h (by decide), fun _ => ⟨x_in 932 (by decide +kernel) rfl, x_in 933 (by decide +kernel) rfl⟩, fun h => absurd h (by decide)⟩
set_option maxRecDepth 50000 in
theorem yoX6_stride : XY yX6_stride cX6_stride 2 (some .int) 2 0 := ⟨List.mem_of_getElem? (i := 938) rfl, x_in 134 (by decide +kernel) rfl, by decide +kernel, fun _ => x_in 937 (by decide +kernel) rfl, fun h => absurd h (by decide), fun h => absurd h (by decide)⟩
set_option maxRecDepth 50000 in
theorem yoX10_extended : XY yX10_extended cX10_extended 2 (some .int) 2 0 := ⟨List.mem_of_getElem? (i := 942) rfl, x_in 130 (by decide +kernel) rfl, by decide +kernel, fun _ => x_in 941 (by decide +kernel) rfl, fun h => absurd h (by decide), fun h => absurd h (by decide)⟩
set_option maxRecDepth 50000 in
theorem yoX6_index : XY yX6_index cX6_index 4 (some .int) 1 1 := ⟨List.mem_of_getElem? (i := 946) rfl, x_in 134 (by decide +kernel) rfl, by decide +kernel, fun h => absurd h (by decide), fun _ => ⟨x_in 945 (by decide +kernel) rfl, x_in 32 (by decide +kernel) rfl⟩, fun h => absurd h (by decide)⟩
set_option maxRecDepth 50000 in
theorem yoX6_read : XY yX6_read cX6_read 2 (some .int) 1 1 := ⟨List.mem_of_getElem? (i := 950) rfl, x_in 134 (by decide +kernel) rfl, by decide +kernel, fun h => absurd h (by decide), fun _ => ⟨x_in 948 (by decide +kernel) rfl, x_in 949 (by decide +kernel) rfl⟩, fun h => absurd h (by decide)⟩
set_option maxRecDepth 50000 in
theorem yoX6_isRegister : XY yX6_isRegister cX6_isRegister 1 (some .boolean) 0 1 := ⟨List.mem_of_getElem? (i := 954) rfl, x_in 134 (by decide +kernel) rfl, by decide +kernel, fun h => absurd h (by decide), fun _ => ⟨x_in 953 (by decide +kernel) rfl, x_in 33 (by decide +kernel) rfl⟩, fun h => absurd h (by decide)⟩
set_option maxRecDepth 50000 in
theorem yoX10_maskOf : XY yX10_maskOf cX10_maskOf 1 (some .int) 1 0 := ⟨List.mem_of_getElem? (i := 957) rfl, x_in 130 (by decide +kernel) rfl, by decide +kernel, fun _ => x_in 956 (by decide +kernel) rfl, fun h => absurd h (by decide), fun h => absurd h (by decide)⟩
set_option maxRecDepth 50000 in
theorem yoX1_tested : XY yX1_tested cX1_tested 3 (some .int) 2 1 := ⟨List.mem_of_getElem? (i := 962) rfl, x_in 137 (by decide +kernel) rfl, by decide +kernel, fun h => absurd h (by decide), fun _ => ⟨x_in 960 (by decide +kernel) rfl, x_in 961 (by decide +kernel) rfl⟩, fun h => absurd h (by decide)⟩
set_option maxRecDepth 50000 in
theorem yoX1_signs : XY yX1_signs cX1_signs 3 (some .int) 2 0 := ⟨List.mem_of_getElem? (i := 965) rfl, x_in 137 (by decide +kernel) rfl, by decide +kernel, fun _ => x_in 964 (by decide +kernel) rfl, fun h => absurd h (by decide), fun h => absurd h (by decide)⟩
set_option maxRecDepth 50000 in
theorem yoX8_changeFlags : XY yX8_changeFlags cX8_changeFlags 3 none 2 1 := ⟨List.mem_of_getElem? (i := 970) rfl, x_in 131 (by decide +kernel) rfl, by decide +kernel, fun h => absurd h (by decide), fun _ => ⟨x_in 968 (by decide +kernel) rfl, x_in 969 (by decide +kernel) rfl⟩, fun h => absurd h (by decide)⟩
set_option maxRecDepth 50000 in
theorem yoX4_overwrite : XY yX4_overwrite cX4_overwrite 2 none 1 1 := ⟨List.mem_of_getElem? (i := 974) rfl, x_in 136 (by decide +kernel) rfl, by decide +kernel, fun h => absurd h (by decide), fun _ => ⟨x_in 973 (by decide +kernel) rfl, x_in 34 (by decide +kernel) rfl⟩, fun h => absurd h (by decide)⟩
set_option maxRecDepth 50000 in
theorem yoX6_write : XY yX6_write cX6_write 4 none 2 1 := ⟨List.mem_of_getElem? (i := 978) rfl, x_in 134 (by decide +kernel) rfl, by decide +kernel, fun h => absurd h (by decide), fun _ => ⟨x_in 976 (by decide +kernel) rfl, x_in 977 (by decide +kernel) rfl⟩, fun h => absurd h (by decide)⟩
set_option maxRecDepth 50000 in
theorem yoX4_change : XY yX4_change cX4_change 4 none 2 1 := ⟨List.mem_of_getElem? (i := 982) rfl, x_in 136 (by decide +kernel) rfl, by decide +kernel, fun h => absurd h (by decide), fun _ => ⟨x_in 981 (by decide +kernel) rfl, x_in 35 (by decide +kernel) rfl⟩, fun h => absurd h (by decide)⟩
set_option maxRecDepth 50000 in
theorem yoX1_combined : XY yX1_combined cX1_combined 5 (some .int) 4 1 := ⟨List.mem_of_getElem? (i := 986) rfl, x_in 137 (by decide +kernel) rfl, by decide +kernel, fun h => absurd h (by decide), fun _ => ⟨x_in 984 (by decide +kernel) rfl, x_in 985 (by decide +kernel) rfl⟩, fun h => absurd h (by decide)⟩
set_option maxRecDepth 50000 in
theorem yoX1_total : XY yX1_total cX1_total 16 (some .int) 6 1 := ⟨List.mem_of_getElem? (i := 992) rfl, x_in 137 (by decide +kernel) rfl, by decide +kernel, fun h => absurd h (by decide), fun _ => ⟨x_in 991 (by decide +kernel) rfl, x_in 36 (by decide +kernel) rfl⟩, fun h => absurd h (by decide)⟩
set_option maxRecDepth 50000 in
theorem yoX1_x : XY yX1_x cX1_x 1 (some .int) 0 1 := ⟨List.mem_of_getElem? (i := 996) rfl, x_in 137 (by decide +kernel) rfl, by decide +kernel, fun h => absurd h (by decide), fun _ => ⟨x_in 995 (by decide +kernel) rfl, x_in 37 (by decide +kernel) rfl⟩, fun h => absurd h (by decide)⟩
set_option maxRecDepth 50000 in
theorem yoX10_withoutSign : XY yX10_withoutSign cX10_withoutSign 2 (some .long) 2 0 := ⟨List.mem_of_getElem? (i := 1000) rfl, x_in 130 (by decide +kernel) rfl, by decide +kernel, fun _ => x_in 999 (by decide +kernel) rfl, fun h => absurd h (by decide), fun h => absurd h (by decide)⟩
set_option maxRecDepth 50000 in
theorem yoX1_addedInTens : XY yX1_addedInTens cX1_addedInTens 5 (some .int) 2 1 := ⟨List.mem_of_getElem? (i := 1005) rfl, x_in 137 (by decide +kernel) rfl, by decide +kernel, fun h => absurd h (by decide), fun _ => ⟨x_in 1004 (by decide +kernel) rfl, x_in 38 (by decide +kernel) rfl⟩, fun h => absurd h (by decide)⟩
set_option maxRecDepth 50000 in
theorem yoX1_settledInTens : XY yX1_settledInTens cX1_settledInTens 5 (some .int) 2 1 := ⟨List.mem_of_getElem? (i := 1009) rfl, x_in 137 (by decide +kernel) rfl, by decide +kernel, fun h => absurd h (by decide), fun _ => ⟨x_in 1008 (by decide +kernel) rfl, x_in 39 (by decide +kernel) rfl⟩, fun h => absurd h (by decide)⟩
set_option maxRecDepth 50000 in
theorem yoX1_subtractedInTens : XY yX1_subtractedInTens cX1_subtractedInTens 5 (some .int) 2 1 := ⟨List.mem_of_getElem? (i := 1013) rfl, x_in 137 (by decide +kernel) rfl, by decide +kernel, fun h => absurd h (by decide), fun _ => ⟨x_in 1012 (by decide +kernel) rfl, x_in 40 (by decide +kernel) rfl⟩, fun h => absurd h (by decide)⟩
set_option maxRecDepth 50000 in
theorem yoX4_compare : XY yX4_compare cX4_compare 2 none 1 1 := ⟨List.mem_of_getElem? (i := 1018) rfl, x_in 136 (by decide +kernel) rfl, by decide +kernel, fun h => absurd h (by decide), fun _ => ⟨x_in 1017 (by decide +kernel) rfl, x_in 41 (by decide +kernel) rfl⟩, fun h => absurd h (by decide)⟩
set_option maxRecDepth 50000 in
theorem yoX4_changeAddress : XY yX4_changeAddress cX4_changeAddress 6 none 2 1 := ⟨List.mem_of_getElem? (i := 1023) rfl, x_in 136 (by decide +kernel) rfl, by decide +kernel, fun h => absurd h (by decide), fun _ => ⟨x_in 1022 (by decide +kernel) rfl, x_in 42 (by decide +kernel) rfl⟩, fun h => absurd h (by decide)⟩
set_option maxRecDepth 50000 in
theorem yoX4_compareAddress : XY yX4_compareAddress cX4_compareAddress 3 none 1 1 := ⟨List.mem_of_getElem? (i := 1030) rfl, x_in 136 (by decide +kernel) rfl, by decide +kernel, fun h => absurd h (by decide), fun _ => ⟨x_in 1029 (by decide +kernel) rfl, x_in 43 (by decide +kernel) rfl⟩, fun h => absurd h (by decide)⟩
set_option maxRecDepth 50000 in
theorem yoX4_multiply : XY yX4_multiply cX4_multiply 5 none 1 1 := ⟨List.mem_of_getElem? (i := 1034) rfl, x_in 136 (by decide +kernel) rfl, by decide +kernel, fun h => absurd h (by decide), fun _ => ⟨x_in 1033 (by decide +kernel) rfl, x_in 44 (by decide +kernel) rfl⟩, fun h => absurd h (by decide)⟩
set_option maxRecDepth 50000 in
theorem yoX4_divide : XY yX4_divide cX4_divide 13 none 1 1 := ⟨List.mem_of_getElem? (i := 1041) rfl, x_in 136 (by decide +kernel) rfl, by decide +kernel, fun h => absurd h (by decide), fun _ => ⟨x_in 1040 (by decide +kernel) rfl, x_in 45 (by decide +kernel) rfl⟩, fun h => absurd h (by decide)⟩
set_option maxRecDepth 50000 in
theorem yoX4_checkBounds : XY yX4_checkBounds cX4_checkBounds 3 none 1 1 := ⟨List.mem_of_getElem? (i := 1047) rfl, x_in 136 (by decide +kernel) rfl, by decide +kernel, fun h => absurd h (by decide), fun _ => ⟨x_in 1046 (by decide +kernel) rfl, x_in 46 (by decide +kernel) rfl⟩, fun h => absurd h (by decide)⟩
set_option maxRecDepth 50000 in
theorem yoX4_quickNumber : XY yX4_quickNumber cX4_quickNumber 2 (some .int) 0 1 := ⟨List.mem_of_getElem? (i := 1052) rfl, x_in 136 (by decide +kernel) rfl, by decide +kernel, fun h => absurd h (by decide), fun _ => ⟨x_in 1051 (by decide +kernel) rfl, x_in 47 (by decide +kernel) rfl⟩, fun h => absurd h (by decide)⟩
set_option maxRecDepth 50000 in
theorem yoX4_changeQuick : XY yX4_changeQuick cX4_changeQuick 4 none 2 1 := ⟨List.mem_of_getElem? (i := 1056) rfl, x_in 136 (by decide +kernel) rfl, by decide +kernel, fun h => absurd h (by decide), fun _ => ⟨x_in 1055 (by decide +kernel) rfl, x_in 48 (by decide +kernel) rfl⟩, fun h => absurd h (by decide)⟩
set_option maxRecDepth 50000 in
theorem yoX4_changeBit : XY yX4_changeBit cX4_changeBit 5 none 1 1 := ⟨List.mem_of_getElem? (i := 1062) rfl, x_in 136 (by decide +kernel) rfl, by decide +kernel, fun h => absurd h (by decide), fun _ => ⟨x_in 1061 (by decide +kernel) rfl, x_in 49 (by decide +kernel) rfl⟩, fun h => absurd h (by decide)⟩
set_option maxRecDepth 50000 in
theorem yoX10_bitsOf : XY yX10_bitsOf cX10_bitsOf 1 (some .int) 1 0 := ⟨List.mem_of_getElem? (i := 1065) rfl, x_in 130 (by decide +kernel) rfl, by decide +kernel, fun _ => x_in 1064 (by decide +kernel) rfl, fun h => absurd h (by decide), fun h => absurd h (by decide)⟩
set_option maxRecDepth 50000 in
theorem yoX4_shiftRegister : XY yX4_shiftRegister cX4_shiftRegister 5 none 0 1 := ⟨List.mem_of_getElem? (i := 1071) rfl, x_in 136 (by decide +kernel) rfl, by decide +kernel, fun h => absurd h (by decide), fun _ => ⟨x_in 1070 (by decide +kernel) rfl, x_in 50 (by decide +kernel) rfl⟩, fun h => absurd h (by decide)⟩
set_option maxRecDepth 50000 in
theorem yoX1_shifted : XY yX1_shifted cX1_shifted 16 (some .int) 5 1 := ⟨List.mem_of_getElem? (i := 1075) rfl, x_in 137 (by decide +kernel) rfl, by decide +kernel, fun h => absurd h (by decide), fun _ => ⟨x_in 1073 (by decide +kernel) rfl, x_in 1074 (by decide +kernel) rfl⟩, fun h => absurd h (by decide)⟩
set_option maxRecDepth 50000 in
theorem yoX4_shiftMemory : XY yX4_shiftMemory cX4_shiftMemory 2 none 0 1 := ⟨List.mem_of_getElem? (i := 1080) rfl, x_in 136 (by decide +kernel) rfl, by decide +kernel, fun h => absurd h (by decide), fun _ => ⟨x_in 1079 (by decide +kernel) rfl, x_in 51 (by decide +kernel) rfl⟩, fun h => absurd h (by decide)⟩
set_option maxRecDepth 50000 in
theorem yoX4_negate : XY yX4_negate cX4_negate 3 none 1 1 := ⟨List.mem_of_getElem? (i := 1084) rfl, x_in 136 (by decide +kernel) rfl, by decide +kernel, fun h => absurd h (by decide), fun _ => ⟨x_in 1083 (by decide +kernel) rfl, x_in 52 (by decide +kernel) rfl⟩, fun h => absurd h (by decide)⟩
set_option maxRecDepth 50000 in
theorem yoX4_turn : XY yX4_turn cX4_turn 1 none 0 1 := ⟨List.mem_of_getElem? (i := 1090) rfl, x_in 136 (by decide +kernel) rfl, by decide +kernel, fun h => absurd h (by decide), fun _ => ⟨x_in 1089 (by decide +kernel) rfl, x_in 53 (by decide +kernel) rfl⟩, fun h => absurd h (by decide)⟩
set_option maxRecDepth 50000 in
theorem yoX4_extend : XY yX4_extend cX4_extend 2 none 0 1 := ⟨List.mem_of_getElem? (i := 1094) rfl, x_in 136 (by decide +kernel) rfl, by decide +kernel, fun h => absurd h (by decide), fun _ => ⟨x_in 1093 (by decide +kernel) rfl, x_in 54 (by decide +kernel) rfl⟩, fun h => absurd h (by decide)⟩
set_option maxRecDepth 50000 in
theorem yoX4_testAndSet : XY yX4_testAndSet cX4_testAndSet 1 none 0 1 := ⟨List.mem_of_getElem? (i := 1098) rfl, x_in 136 (by decide +kernel) rfl, by decide +kernel, fun h => absurd h (by decide), fun _ => ⟨x_in 1097 (by decide +kernel) rfl, x_in 55 (by decide +kernel) rfl⟩, fun h => absurd h (by decide)⟩
set_option maxRecDepth 50000 in
theorem yoX3_condition : XY yX3_condition cX3_condition 1 (some .int) 0 1 := ⟨List.mem_of_getElem? (i := 1102) rfl, x_in 135 (by decide +kernel) rfl, by decide +kernel, fun h => absurd h (by decide), fun _ => ⟨x_in 1100 (by decide +kernel) rfl, x_in 1101 (by decide +kernel) rfl⟩, fun h => absurd h (by decide)⟩
set_option maxRecDepth 50000 in
theorem yoX8_holds : XY yX8_holds cX8_holds 3 (some .boolean) 1 1 := ⟨List.mem_of_getElem? (i := 1106) rfl, x_in 131 (by decide +kernel) rfl, by decide +kernel, fun h => absurd h (by decide), fun _ => ⟨x_in 1104 (by decide +kernel) rfl, x_in 1105 (by decide +kernel) rfl⟩, fun h => absurd h (by decide)⟩
set_option maxRecDepth 50000 in
theorem yoX4_storeMany : XY yX4_storeMany cX4_storeMany 4 none 0 1 := ⟨List.mem_of_getElem? (i := 1112) rfl, x_in 136 (by decide +kernel) rfl, by decide +kernel, fun h => absurd h (by decide), fun _ => ⟨x_in 1111 (by decide +kernel) rfl, x_in 56 (by decide +kernel) rfl⟩, fun h => absurd h (by decide)⟩
set_option maxRecDepth 50000 in
theorem yoX4_storeManyBefore : XY yX4_storeManyBefore cX4_storeManyBefore 5 none 1 1 := ⟨List.mem_of_getElem? (i := 1116) rfl, x_in 136 (by decide +kernel) rfl, by decide +kernel, fun h => absurd h (by decide), fun _ => ⟨x_in 1115 (by decide +kernel) rfl, x_in 57 (by decide +kernel) rfl⟩, fun h => absurd h (by decide)⟩
set_option maxRecDepth 50000 in
theorem yoX4_loadMany : XY yX4_loadMany cX4_loadMany 4 none 0 1 := ⟨List.mem_of_getElem? (i := 1122) rfl, x_in 136 (by decide +kernel) rfl, by decide +kernel, fun h => absurd h (by decide), fun _ => ⟨x_in 1121 (by decide +kernel) rfl, x_in 58 (by decide +kernel) rfl⟩, fun h => absurd h (by decide)⟩
set_option maxRecDepth 50000 in
theorem yoX4_address : XY yX4_address cX4_address 1 (some .int) 0 1 := ⟨List.mem_of_getElem? (i := 1127) rfl, x_in 136 (by decide +kernel) rfl, by decide +kernel, fun h => absurd h (by decide), fun _ => ⟨x_in 1126 (by decide +kernel) rfl, x_in 59 (by decide +kernel) rfl⟩, fun h => absurd h (by decide)⟩
set_option maxRecDepth 50000 in
theorem yoX4_call : XY yX4_call cX4_call 2 none 1 1 := ⟨List.mem_of_getElem? (i := 1132) rfl, x_in 136 (by decide +kernel) rfl, by decide +kernel, fun h => absurd h (by decide), fun _ => ⟨x_in 1131 (by decide +kernel) rfl, x_in 60 (by decide +kernel) rfl⟩, fun h => absurd h (by decide)⟩
set_option maxRecDepth 50000 in
theorem yoX4_branch : XY yX4_branch cX4_branch 3 none 0 1 := ⟨List.mem_of_getElem? (i := 1136) rfl, x_in 136 (by decide +kernel) rfl, by decide +kernel, fun h => absurd h (by decide), fun _ => ⟨x_in 1135 (by decide +kernel) rfl, x_in 61 (by decide +kernel) rfl⟩, fun h => absurd h (by decide)⟩
set_option maxRecDepth 50000 in
theorem yoX4_countDown : XY yX4_countDown cX4_countDown 5 none 0 1 := ⟨List.mem_of_getElem? (i := 1140) rfl, x_in 136 (by decide +kernel) rfl, by decide +kernel, fun h => absurd h (by decide), fun _ => ⟨x_in 1139 (by decide +kernel) rfl, x_in 62 (by decide +kernel) rfl⟩, fun h => absurd h (by decide)⟩
set_option maxRecDepth 50000 in
theorem yoX4_moveBytes : XY yX4_moveBytes cX4_moveBytes 3 none 0 1 := ⟨List.mem_of_getElem? (i := 1146) rfl, x_in 136 (by decide +kernel) rfl, by decide +kernel, fun h => absurd h (by decide), fun _ => ⟨x_in 1145 (by decide +kernel) rfl, x_in 63 (by decide +kernel) rfl⟩, fun h => absurd h (by decide)⟩
set_option maxRecDepth 50000 in
theorem yoX4_loadBytes : XY yX4_loadBytes cX4_loadBytes 5 none 2 1 := ⟨List.mem_of_getElem? (i := 1150) rfl, x_in 136 (by decide +kernel) rfl, by decide +kernel, fun h => absurd h (by decide), fun _ => ⟨x_in 1149 (by decide +kernel) rfl, x_in 64 (by decide +kernel) rfl⟩, fun h => absurd h (by decide)⟩
set_option maxRecDepth 50000 in
theorem yoX4_storeBytes : XY yX4_storeBytes cX4_storeBytes 6 none 2 1 := ⟨List.mem_of_getElem? (i := 1155) rfl, x_in 136 (by decide +kernel) rfl, by decide +kernel, fun h => absurd h (by decide), fun _ => ⟨x_in 1154 (by decide +kernel) rfl, x_in 65 (by decide +kernel) rfl⟩, fun h => absurd h (by decide)⟩
set_option maxRecDepth 50000 in
theorem yoX4_performRest : XY yX4_performRest cX4_performRest 2 none 1 1 := ⟨List.mem_of_getElem? (i := 1159) rfl, x_in 136 (by decide +kernel) rfl, by decide +kernel, fun h => absurd h (by decide), fun _ => ⟨x_in 1158 (by decide +kernel) rfl, x_in 66 (by decide +kernel) rfl⟩, fun h => absurd h (by decide)⟩
set_option maxRecDepth 50000 in
theorem yoX4_exchange : XY yX4_exchange cX4_exchange 4 none 0 1 := ⟨List.mem_of_getElem? (i := 1163) rfl, x_in 136 (by decide +kernel) rfl, by decide +kernel, fun h => absurd h (by decide), fun _ => ⟨x_in 1162 (by decide +kernel) rfl, x_in 67 (by decide +kernel) rfl⟩, fun h => absurd h (by decide)⟩
set_option maxRecDepth 50000 in
theorem yoX4_moveQuick : XY yX4_moveQuick cX4_moveQuick 1 none 0 1 := ⟨List.mem_of_getElem? (i := 1167) rfl, x_in 136 (by decide +kernel) rfl, by decide +kernel, fun h => absurd h (by decide), fun _ => ⟨x_in 1166 (by decide +kernel) rfl, x_in 68 (by decide +kernel) rfl⟩, fun h => absurd h (by decide)⟩
set_option maxRecDepth 50000 in
theorem yoX4_statusJoined : XY yX4_statusJoined cX4_statusJoined 2 (some .int) 0 1 := ⟨List.mem_of_getElem? (i := 1171) rfl, x_in 136 (by decide +kernel) rfl, by decide +kernel, fun h => absurd h (by decide), fun _ => ⟨x_in 1170 (by decide +kernel) rfl, x_in 69 (by decide +kernel) rfl⟩, fun h => absurd h (by decide)⟩
set_option maxRecDepth 50000 in
theorem yoX4_swap : XY yX4_swap cX4_swap 2 none 0 1 := ⟨List.mem_of_getElem? (i := 1175) rfl, x_in 136 (by decide +kernel) rfl, by decide +kernel, fun h => absurd h (by decide), fun _ => ⟨x_in 1174 (by decide +kernel) rfl, x_in 70 (by decide +kernel) rfl⟩, fun h => absurd h (by decide)⟩
set_option maxRecDepth 50000 in
theorem yoX6_pull : XY yX6_pull cX6_pull 3 (some .int) 1 1 := ⟨List.mem_of_getElem? (i := 1179) rfl, x_in 134 (by decide +kernel) rfl, by decide +kernel, fun h => absurd h (by decide), fun _ => ⟨x_in 1177 (by decide +kernel) rfl, x_in 1178 (by decide +kernel) rfl⟩, fun h => absurd h (by decide)⟩
set_option maxRecDepth 50000 in
theorem yoX4_returnWithFlags : XY yX4_returnWithFlags cX4_returnWithFlags 2 none 0 1 := ⟨List.mem_of_getElem? (i := 1183) rfl, x_in 136 (by decide +kernel) rfl, by decide +kernel, fun h => absurd h (by decide), fun _ => ⟨x_in 1182 (by decide +kernel) rfl, x_in 71 (by decide +kernel) rfl⟩, fun h => absurd h (by decide)⟩
set_option maxRecDepth 50000 in
theorem yoX4_returnFromException : XY yX4_returnFromException cX4_returnFromException 3 none 0 1 := ⟨List.mem_of_getElem? (i := 1187) rfl, x_in 136 (by decide +kernel) rfl, by decide +kernel, fun h => absurd h (by decide), fun _ => ⟨x_in 1186 (by decide +kernel) rfl, x_in 72 (by decide +kernel) rfl⟩, fun h => absurd h (by decide)⟩
set_option maxRecDepth 50000 in
theorem yoX4_link : XY yX4_link cX4_link 3 none 0 1 := ⟨List.mem_of_getElem? (i := 1192) rfl, x_in 136 (by decide +kernel) rfl, by decide +kernel, fun h => absurd h (by decide), fun _ => ⟨x_in 1191 (by decide +kernel) rfl, x_in 73 (by decide +kernel) rfl⟩, fun h => absurd h (by decide)⟩
set_option maxRecDepth 50000 in
theorem yoX4_unlink : XY yX4_unlink cX4_unlink 2 none 0 1 := ⟨List.mem_of_getElem? (i := 1196) rfl, x_in 136 (by decide +kernel) rfl, by decide +kernel, fun h => absurd h (by decide), fun _ => ⟨x_in 1195 (by decide +kernel) rfl, x_in 74 (by decide +kernel) rfl⟩, fun h => absurd h (by decide)⟩
set_option maxRecDepth 50000 in
theorem yoX4_stop : XY yX4_stop cX4_stop 1 none 0 1 := ⟨List.mem_of_getElem? (i := 1201) rfl, x_in 136 (by decide +kernel) rfl, by decide +kernel, fun h => absurd h (by decide), fun _ => ⟨x_in 1200 (by decide +kernel) rfl, x_in 75 (by decide +kernel) rfl⟩, fun h => absurd h (by decide)⟩
set_option maxRecDepth 50000 in
theorem yoX7_end : XY yX7_end cX7_end 2 (some .int) 0 1 := ⟨List.mem_of_getElem? (i := 1205) rfl, x_in 133 (by decide +kernel) rfl, by decide +kernel, fun h => absurd h (by decide), fun _ => ⟨x_in 1204 (by decide +kernel) rfl, x_in 76 (by decide +kernel) rfl⟩, fun h => absurd h (by decide)⟩
set_option maxRecDepth 50000 in
theorem yoX7_isOfInstruction : XY yX7_isOfInstruction cX7_isOfInstruction 1 (some .boolean) 1 0 := ⟨List.mem_of_getElem? (i := 1208) rfl, x_in 133 (by decide +kernel) rfl, by decide +kernel, fun _ => x_in 1207 (by decide +kernel) rfl, fun h => absurd h (by decide), fun h => absurd h (by decide)⟩
set_option maxRecDepth 50000 in
theorem yoX2_tick : XY yX2_tick cX2_tick 1 none 0 1 := ⟨List.mem_of_getElem? (i := 1212) rfl, x_in 132 (by decide +kernel) rfl, by decide +kernel, fun h => absurd h (by decide), fun _ => ⟨x_in 1210 (by decide +kernel) rfl, x_in 1211 (by decide +kernel) rfl⟩, fun h => absurd h (by decide)⟩
set_option maxRecDepth 50000 in
theorem yoX10_run : XY yX10_run cX10_run 3 (some .int) 1 1 := ⟨List.mem_of_getElem? (i := 1219) rfl, x_in 130 (by decide +kernel) rfl, by decide +kernel, fun h => absurd h (by decide), fun _ => ⟨x_in 1217 (by decide +kernel) rfl, x_in 1218 (by decide +kernel) rfl⟩, fun h => absurd h (by decide)⟩
set_option maxRecDepth 50000 in
theorem yoX10_level : XY yX10_level cX10_level 2 none 1 1 := ⟨List.mem_of_getElem? (i := 1226) rfl, x_in 130 (by decide +kernel) rfl, by decide +kernel, fun h => absurd h (by decide), fun _ => ⟨x_in 1224 (by decide +kernel) rfl, x_in 1225 (by decide +kernel) rfl⟩, fun h => absurd h (by decide)⟩
set_option maxRecDepth 50000 in
theorem yoX10_get : XY yX10_get cX10_get 2 (some .int) 1 1 := ⟨List.mem_of_getElem? (i := 1233) rfl, x_in 130 (by decide +kernel) rfl, by decide +kernel, fun h => absurd h (by decide), fun _ => ⟨x_in 1231 (by decide +kernel) rfl, x_in 1232 (by decide +kernel) rfl⟩, fun h => absurd h (by decide)⟩
set_option maxRecDepth 50000 in
theorem yoX10_set : XY yX10_set cX10_set 3 none 2 1 := ⟨List.mem_of_getElem? (i := 1240) rfl, x_in 130 (by decide +kernel) rfl, by decide +kernel, fun h => absurd h (by decide), fun _ => ⟨x_in 1238 (by decide +kernel) rfl, x_in 1239 (by decide +kernel) rfl⟩, fun h => absurd h (by decide)⟩
set_option maxRecDepth 50000 in
theorem yoX10_device : XY yX10_device cX10_device 2 (some .int) 1 1 := ⟨List.mem_of_getElem? (i := 1248) rfl, x_in 130 (by decide +kernel) rfl, by decide +kernel, fun h => absurd h (by decide), fun _ => ⟨x_in 1246 (by decide +kernel) rfl, x_in 1247 (by decide +kernel) rfl⟩, fun h => absurd h (by decide)⟩
set_option maxRecDepth 50000 in
theorem yoX11_init : XY yX11_init cX11_init 1 none 0 2 := ⟨List.mem_of_getElem? (i := 1253) rfl, x_in 138 (by decide +kernel) rfl, by decide +kernel, fun h => absurd h (by decide), fun h => absurd h (by decide), fun _ => ⟨x_in 1252 (by decide +kernel) rfl, rfl⟩⟩
set_option maxRecDepth 50000 in
theorem yoX11_thrown : XY yX11_thrown cX11_thrown 1 (some .int) 0 1 := ⟨List.mem_of_getElem? (i := 1340) rfl, x_in 138 (by decide +kernel) rfl, by decide +kernel, fun h => absurd h (by decide), fun _ => ⟨x_in 1338 (by decide +kernel) rfl, x_in 1339 (by decide +kernel) rfl⟩, fun h => absurd h (by decide)⟩
set_option maxRecDepth 50000 in
theorem yoX11_put : XY yX11_put cX11_put 3 none 2 1 := ⟨List.mem_of_getElem? (i := 1344) rfl, x_in 138 (by decide +kernel) rfl, by decide +kernel, fun h => absurd h (by decide), fun _ => ⟨x_in 1342 (by decide +kernel) rfl, x_in 1343 (by decide +kernel) rfl⟩, fun h => absurd h (by decide)⟩
set_option maxRecDepth 50000 in
theorem yoX11_fill : XY yX11_fill cX11_fill 6 none 3 1 := ⟨List.mem_of_getElem? (i := 1348) rfl, x_in 138 (by decide +kernel) rfl, by decide +kernel, fun h => absurd h (by decide), fun _ => ⟨x_in 1346 (by decide +kernel) rfl, x_in 1347 (by decide +kernel) rfl⟩, fun h => absurd h (by decide)⟩
set_option maxRecDepth 50000 in
theorem yoX11_fence : XY yX11_fence cX11_fence 2 none 1 1 := ⟨List.mem_of_getElem? (i := 1352) rfl, x_in 138 (by decide +kernel) rfl, by decide +kernel, fun h => absurd h (by decide), fun _ => ⟨x_in 1350 (by decide +kernel) rfl, x_in 1351 (by decide +kernel) rfl⟩, fun h => absurd h (by decide)⟩
set_option maxRecDepth 50000 in
theorem yoX11_reset : XY yX11_reset cX11_reset 1 none 0 1 := ⟨List.mem_of_getElem? (i := 1356) rfl, x_in 138 (by decide +kernel) rfl, by decide +kernel, fun h => absurd h (by decide), fun _ => ⟨x_in 1354 (by decide +kernel) rfl, x_in 1355 (by decide +kernel) rfl⟩, fun h => absurd h (by decide)⟩
set_option maxRecDepth 50000 in
theorem yoX11_setStatus : XY yX11_setStatus cX11_setStatus 4 none 1 1 := ⟨List.mem_of_getElem? (i := 1360) rfl, x_in 138 (by decide +kernel) rfl, by decide +kernel, fun h => absurd h (by decide), fun _ => ⟨x_in 1359 (by decide +kernel) rfl, x_in 77 (by decide +kernel) rfl⟩, fun h => absurd h (by decide)⟩
set_option maxRecDepth 50000 in
theorem yoX11_longAt : XY yX11_longAt cX11_longAt 2 (some .int) 1 1 := ⟨List.mem_of_getElem? (i := 1365) rfl, x_in 138 (by decide +kernel) rfl, by decide +kernel, fun h => absurd h (by decide), fun _ => ⟨x_in 1364 (by decide +kernel) rfl, x_in 78 (by decide +kernel) rfl⟩, fun h => absurd h (by decide)⟩
set_option maxRecDepth 50000 in
theorem yoX11_step : XY yX11_step cX11_step 1 (some .int) 0 1 := ⟨List.mem_of_getElem? (i := 1369) rfl, x_in 138 (by decide +kernel) rfl, by decide +kernel, fun h => absurd h (by decide), fun _ => ⟨x_in 1367 (by decide +kernel) rfl, x_in 1368 (by decide +kernel) rfl⟩, fun h => absurd h (by decide)⟩
set_option maxRecDepth 50000 in
theorem yoX11_stepped : XY yX11_stepped cX11_stepped 4 (some .int) 0 1 := ⟨List.mem_of_getElem? (i := 1373) rfl, x_in 138 (by decide +kernel) rfl, by decide +kernel, fun h => absurd h (by decide), fun _ => ⟨x_in 1372 (by decide +kernel) rfl, x_in 79 (by decide +kernel) rfl⟩, fun h => absurd h (by decide)⟩
set_option maxRecDepth 50000 in
theorem yoX11_work : XY yX11_work cX11_work 5 none 2 1 := ⟨List.mem_of_getElem? (i := 1377) rfl, x_in 138 (by decide +kernel) rfl, by decide +kernel, fun h => absurd h (by decide), fun _ => ⟨x_in 1376 (by decide +kernel) rfl, x_in 80 (by decide +kernel) rfl⟩, fun h => absurd h (by decide)⟩
set_option maxRecDepth 50000 in
theorem yoX11_tried : XY yX11_tried cX11_tried 8 (some .int) 2 1 := ⟨List.mem_of_getElem? (i := 1381) rfl, x_in 138 (by decide +kernel) rfl, by decide +kernel, fun h => absurd h (by decide), fun _ => ⟨x_in 1380 (by decide +kernel) rfl, x_in 81 (by decide +kernel) rfl⟩, fun h => absurd h (by decide)⟩
set_option maxRecDepth 50000 in
theorem yoX11_keep : XY yX11_keep cX11_keep 3 none 1 1 := ⟨List.mem_of_getElem? (i := 1385) rfl, x_in 138 (by decide +kernel) rfl, by decide +kernel, fun h => absurd h (by decide), fun _ => ⟨x_in 1384 (by decide +kernel) rfl, x_in 82 (by decide +kernel) rfl⟩, fun h => absurd h (by decide)⟩
set_option maxRecDepth 50000 in
theorem yoX11_has : XY yX11_has cX11_has 2 (some .boolean) 1 1 := ⟨List.mem_of_getElem? (i := 1389) rfl, x_in 138 (by decide +kernel) rfl, by decide +kernel, fun h => absurd h (by decide), fun _ => ⟨x_in 1388 (by decide +kernel) rfl, x_in 83 (by decide +kernel) rfl⟩, fun h => absurd h (by decide)⟩
set_option maxRecDepth 50000 in
theorem yoX11_push : XY yX11_push cX11_push 3 none 2 1 := ⟨List.mem_of_getElem? (i := 1394) rfl, x_in 138 (by decide +kernel) rfl, by decide +kernel, fun h => absurd h (by decide), fun _ => ⟨x_in 1393 (by decide +kernel) rfl, x_in 84 (by decide +kernel) rfl⟩, fun h => absurd h (by decide)⟩
set_option maxRecDepth 50000 in
theorem yoX11_write : XY yX11_write cX11_write 6 none 3 1 := ⟨List.mem_of_getElem? (i := 1398) rfl, x_in 138 (by decide +kernel) rfl, by decide +kernel, fun h => absurd h (by decide), fun _ => ⟨x_in 1397 (by decide +kernel) rfl, x_in 85 (by decide +kernel) rfl⟩, fun h => absurd h (by decide)⟩
set_option maxRecDepth 50000 in
theorem yoX11_fails : XY yX11_fails cX11_fails 9 (some .boolean) 4 1 := ⟨List.mem_of_getElem? (i := 1402) rfl, x_in 138 (by decide +kernel) rfl, by decide +kernel, fun h => absurd h (by decide), fun _ => ⟨x_in 1401 (by decide +kernel) rfl, x_in 86 (by decide +kernel) rfl⟩, fun h => absurd h (by decide)⟩
set_option maxRecDepth 50000 in
theorem yoX11_isDevice : XY yX11_isDevice cX11_isDevice 1 (some .boolean) 1 0 := ⟨List.mem_of_getElem? (i := 1406) rfl, x_in 138 (by decide +kernel) rfl, by decide +kernel, fun _ => x_in 1405 (by decide +kernel) rfl, fun h => absurd h (by decide), fun h => absurd h (by decide)⟩
set_option maxRecDepth 50000 in
theorem yoX11_writeByte : XY yX11_writeByte cX11_writeByte 3 none 2 1 := ⟨List.mem_of_getElem? (i := 1410) rfl, x_in 138 (by decide +kernel) rfl, by decide +kernel, fun h => absurd h (by decide), fun _ => ⟨x_in 1409 (by decide +kernel) rfl, x_in 87 (by decide +kernel) rfl⟩, fun h => absurd h (by decide)⟩
set_option maxRecDepth 50000 in
theorem yoX11_read : XY yX11_read cX11_read 6 (some .int) 3 1 := ⟨List.mem_of_getElem? (i := 1415) rfl, x_in 138 (by decide +kernel) rfl, by decide +kernel, fun h => absurd h (by decide), fun _ => ⟨x_in 1414 (by decide +kernel) rfl, x_in 88 (by decide +kernel) rfl⟩, fun h => absurd h (by decide)⟩
set_option maxRecDepth 50000 in
theorem yoX11_readByte : XY yX11_readByte cX11_readByte 4 (some .int) 1 1 := ⟨List.mem_of_getElem? (i := 1419) rfl, x_in 138 (by decide +kernel) rfl, by decide +kernel, fun h => absurd h (by decide), fun _ => ⟨x_in 1418 (by decide +kernel) rfl, x_in 89 (by decide +kernel) rfl⟩, fun h => absurd h (by decide)⟩
set_option maxRecDepth 50000 in
theorem yoX11_back : XY yX11_back cX11_back 3 none 1 1 := ⟨List.mem_of_getElem? (i := 1423) rfl, x_in 138 (by decide +kernel) rfl, by decide +kernel, fun h => absurd h (by decide), fun _ => ⟨x_in 1422 (by decide +kernel) rfl, x_in 90 (by decide +kernel) rfl⟩, fun h => absurd h (by decide)⟩
set_option maxRecDepth 50000 in
theorem yoX11_instruct : XY yX11_instruct cX11_instruct 5 (some .int) 0 1 := ⟨List.mem_of_getElem? (i := 1427) rfl, x_in 138 (by decide +kernel) rfl, by decide +kernel, fun h => absurd h (by decide), fun _ => ⟨x_in 1426 (by decide +kernel) rfl, x_in 91 (by decide +kernel) rfl⟩, fun h => absurd h (by decide)⟩
set_option maxRecDepth 50000 in
theorem yoX11_fetch : XY yX11_fetch cX11_fetch 2 (some .int) 0 1 := ⟨List.mem_of_getElem? (i := 1432) rfl, x_in 138 (by decide +kernel) rfl, by decide +kernel, fun h => absurd h (by decide), fun _ => ⟨x_in 1431 (by decide +kernel) rfl, x_in 92 (by decide +kernel) rfl⟩, fun h => absurd h (by decide)⟩
set_option maxRecDepth 50000 in
theorem yoX11_isLegal : XY yX11_isLegal cX11_isLegal 7 (some .boolean) 1 0 := ⟨List.mem_of_getElem? (i := 1435) rfl, x_in 138 (by decide +kernel) rfl, by decide +kernel, fun _ => x_in 1434 (by decide +kernel) rfl, fun h => absurd h (by decide), fun h => absurd h (by decide)⟩
set_option maxRecDepth 50000 in
theorem yoX11_fits : XY yX11_fits cX11_fits 5 (some .boolean) 3 0 := ⟨List.mem_of_getElem? (i := 1438) rfl, x_in 138 (by decide +kernel) rfl, by decide +kernel, fun _ => x_in 1437 (by decide +kernel) rfl, fun h => absurd h (by decide), fun h => absurd h (by decide)⟩
set_option maxRecDepth 50000 in
theorem yoX11_isLegalThree : XY yX11_isLegalThree cX11_isLegalThree 4 (some .boolean) 2 0 := ⟨List.mem_of_getElem? (i := 1441) rfl, x_in 138 (by decide +kernel) rfl, by decide +kernel, fun _ => x_in 1440 (by decide +kernel) rfl, fun h => absurd h (by decide), fun h => absurd h (by decide)⟩
set_option maxRecDepth 50000 in
theorem yoX11_isLegalTwelve : XY yX11_isLegalTwelve cX11_isLegalTwelve 4 (some .boolean) 4 0 := ⟨List.mem_of_getElem? (i := 1444) rfl, x_in 138 (by decide +kernel) rfl, by decide +kernel, fun _ => x_in 1443 (by decide +kernel) rfl, fun h => absurd h (by decide), fun h => absurd h (by decide)⟩
set_option maxRecDepth 50000 in
theorem yoX11_isStatus : XY yX11_isStatus cX11_isStatus 2 (some .boolean) 2 0 := ⟨List.mem_of_getElem? (i := 1447) rfl, x_in 138 (by decide +kernel) rfl, by decide +kernel, fun _ => x_in 1446 (by decide +kernel) rfl, fun h => absurd h (by decide), fun h => absurd h (by decide)⟩
set_option maxRecDepth 50000 in
theorem yoX11_isPrivileged : XY yX11_isPrivileged cX11_isPrivileged 3 (some .boolean) 1 0 := ⟨List.mem_of_getElem? (i := 1450) rfl, x_in 138 (by decide +kernel) rfl, by decide +kernel, fun _ => x_in 1449 (by decide +kernel) rfl, fun h => absurd h (by decide), fun h => absurd h (by decide)⟩
set_option maxRecDepth 50000 in
theorem yoX11_perform : XY yX11_perform cX11_perform 6 none 1 1 := ⟨List.mem_of_getElem? (i := 1454) rfl, x_in 138 (by decide +kernel) rfl, by decide +kernel, fun h => absurd h (by decide), fun _ => ⟨x_in 1453 (by decide +kernel) rfl, x_in 93 (by decide +kernel) rfl⟩, fun h => absurd h (by decide)⟩
set_option maxRecDepth 50000 in
theorem yoX11_move : XY yX11_move cX11_move 5 none 3 1 := ⟨List.mem_of_getElem? (i := 1458) rfl, x_in 138 (by decide +kernel) rfl, by decide +kernel, fun h => absurd h (by decide), fun _ => ⟨x_in 1457 (by decide +kernel) rfl, x_in 94 (by decide +kernel) rfl⟩, fun h => absurd h (by decide)⟩
set_option maxRecDepth 50000 in
theorem yoX11_loadAt : XY yX11_loadAt cX11_loadAt 3 (some .int) 2 1 := ⟨List.mem_of_getElem? (i := 1462) rfl, x_in 138 (by decide +kernel) rfl, by decide +kernel, fun h => absurd h (by decide), fun _ => ⟨x_in 1461 (by decide +kernel) rfl, x_in 95 (by decide +kernel) rfl⟩, fun h => absurd h (by decide)⟩
set_option maxRecDepth 50000 in
theorem yoX11_find : XY yX11_find cX11_find 7 none 2 1 := ⟨List.mem_of_getElem? (i := 1466) rfl, x_in 138 (by decide +kernel) rfl, by decide +kernel, fun h => absurd h (by decide), fun _ => ⟨x_in 1465 (by decide +kernel) rfl, x_in 96 (by decide +kernel) rfl⟩, fun h => absurd h (by decide)⟩
set_option maxRecDepth 50000 in
theorem yoX11_index : XY yX11_index cX11_index 3 (some .int) 0 1 := ⟨List.mem_of_getElem? (i := 1470) rfl, x_in 138 (by decide +kernel) rfl, by decide +kernel, fun h => absurd h (by decide), fun _ => ⟨x_in 1469 (by decide +kernel) rfl, x_in 97 (by decide +kernel) rfl⟩, fun h => absurd h (by decide)⟩
set_option maxRecDepth 50000 in
theorem yoX11_findMore : XY yX11_findMore cX11_findMore 4 none 2 1 := ⟨List.mem_of_getElem? (i := 1474) rfl, x_in 138 (by decide +kernel) rfl, by decide +kernel, fun h => absurd h (by decide), fun _ => ⟨x_in 1473 (by decide +kernel) rfl, x_in 98 (by decide +kernel) rfl⟩, fun h => absurd h (by decide)⟩
set_option maxRecDepth 50000 in
theorem yoX11_number : XY yX11_number cX11_number 3 (some .int) 1 1 := ⟨List.mem_of_getElem? (i := 1478) rfl, x_in 138 (by decide +kernel) rfl, by decide +kernel, fun h => absurd h (by decide), fun _ => ⟨x_in 1477 (by decide +kernel) rfl, x_in 99 (by decide +kernel) rfl⟩, fun h => absurd h (by decide)⟩
set_option maxRecDepth 50000 in
theorem yoX11_mask : XY yX11_mask cX11_mask 1 (some .int) 1 0 := ⟨List.mem_of_getElem? (i := 1481) rfl, x_in 138 (by decide +kernel) rfl, by decide +kernel, fun _ => x_in 1480 (by decide +kernel) rfl, fun h => absurd h (by decide), fun h => absurd h (by decide)⟩
set_option maxRecDepth 50000 in
theorem yoX11_load : XY yX11_load cX11_load 2 (some .int) 1 1 := ⟨List.mem_of_getElem? (i := 1486) rfl, x_in 138 (by decide +kernel) rfl, by decide +kernel, fun h => absurd h (by decide), fun _ => ⟨x_in 1485 (by decide +kernel) rfl, x_in 100 (by decide +kernel) rfl⟩, fun h => absurd h (by decide)⟩
set_option maxRecDepth 50000 in
theorem yoX11_extend : XY yX11_extend cX11_extend 2 (some .int) 2 0 := ⟨List.mem_of_getElem? (i := 1489) rfl, x_in 138 (by decide +kernel) rfl, by decide +kernel, fun _ => x_in 1488 (by decide +kernel) rfl, fun h => absurd h (by decide), fun h => absurd h (by decide)⟩
set_option maxRecDepth 50000 in
theorem yoX11_store : XY yX11_store cX11_store 3 none 2 1 := ⟨List.mem_of_getElem? (i := 1493) rfl, x_in 138 (by decide +kernel) rfl, by decide +kernel, fun h => absurd h (by decide), fun _ => ⟨x_in 1492 (by decide +kernel) rfl, x_in 101 (by decide +kernel) rfl⟩, fun h => absurd h (by decide)⟩
set_option maxRecDepth 50000 in
theorem yoX11_test : XY yX11_test cX11_test 4 none 2 1 := ⟨List.mem_of_getElem? (i := 1497) rfl, x_in 138 (by decide +kernel) rfl, by decide +kernel, fun h => absurd h (by decide), fun _ => ⟨x_in 1496 (by decide +kernel) rfl, x_in 102 (by decide +kernel) rfl⟩, fun h => absurd h (by decide)⟩
set_option maxRecDepth 50000 in
theorem yoX11_flag : XY yX11_flag cX11_flag 3 none 2 1 := ⟨List.mem_of_getElem? (i := 1501) rfl, x_in 138 (by decide +kernel) rfl, by decide +kernel, fun h => absurd h (by decide), fun _ => ⟨x_in 1500 (by decide +kernel) rfl, x_in 103 (by decide +kernel) rfl⟩, fun h => absurd h (by decide)⟩
set_option maxRecDepth 50000 in
theorem yoX11_three : XY yX11_three cX11_three 5 none 2 1 := ⟨List.mem_of_getElem? (i := 1505) rfl, x_in 138 (by decide +kernel) rfl, by decide +kernel, fun h => absurd h (by decide), fun _ => ⟨x_in 1504 (by decide +kernel) rfl, x_in 104 (by decide +kernel) rfl⟩, fun h => absurd h (by decide)⟩
set_option maxRecDepth 50000 in
theorem yoX11_one : XY yX11_one cX11_one 5 none 3 1 := ⟨List.mem_of_getElem? (i := 1509) rfl, x_in 138 (by decide +kernel) rfl, by decide +kernel, fun h => absurd h (by decide), fun _ => ⟨x_in 1508 (by decide +kernel) rfl, x_in 105 (by decide +kernel) rfl⟩, fun h => absurd h (by decide)⟩
set_option maxRecDepth 50000 in
theorem yoX11_sum : XY yX11_sum cX11_sum 24 (some .int) 5 1 := ⟨List.mem_of_getElem? (i := 1513) rfl, x_in 138 (by decide +kernel) rfl, by decide +kernel, fun h => absurd h (by decide), fun _ => ⟨x_in 1512 (by decide +kernel) rfl, x_in 106 (by decide +kernel) rfl⟩, fun h => absurd h (by decide)⟩
set_option maxRecDepth 50000 in
theorem yoX11_tens : XY yX11_tens cX11_tens 7 (some .int) 3 1 := ⟨List.mem_of_getElem? (i := 1518) rfl, x_in 138 (by decide +kernel) rfl, by decide +kernel, fun h => absurd h (by decide), fun _ => ⟨x_in 1517 (by decide +kernel) rfl, x_in 107 (by decide +kernel) rfl⟩, fun h => absurd h (by decide)⟩
set_option maxRecDepth 50000 in
theorem yoX11_extendOrStore : XY yX11_extendOrStore cX11_extendOrStore 9 none 2 1 := ⟨List.mem_of_getElem? (i := 1522) rfl, x_in 138 (by decide +kernel) rfl, by decide +kernel, fun h => absurd h (by decide), fun _ => ⟨x_in 1521 (by decide +kernel) rfl, x_in 108 (by decide +kernel) rfl⟩, fun h => absurd h (by decide)⟩
set_option maxRecDepth 50000 in
theorem yoX11_keepIn : XY yX11_keepIn cX11_keepIn 4 none 3 1 := ⟨List.mem_of_getElem? (i := 1526) rfl, x_in 138 (by decide +kernel) rfl, by decide +kernel, fun h => absurd h (by decide), fun _ => ⟨x_in 1525 (by decide +kernel) rfl, x_in 109 (by decide +kernel) rfl⟩, fun h => absurd h (by decide)⟩
set_option maxRecDepth 50000 in
theorem yoX11_loadMany : XY yX11_loadMany cX11_loadMany 7 none 2 1 := ⟨List.mem_of_getElem? (i := 1530) rfl, x_in 138 (by decide +kernel) rfl, by decide +kernel, fun h => absurd h (by decide), fun _ => ⟨x_in 1529 (by decide +kernel) rfl, x_in 110 (by decide +kernel) rfl⟩, fun h => absurd h (by decide)⟩
set_option maxRecDepth 50000 in
theorem yoX11_system : XY yX11_system cX11_system 4 none 1 1 := ⟨List.mem_of_getElem? (i := 1534) rfl, x_in 138 (by decide +kernel) rfl, by decide +kernel, fun h => absurd h (by decide), fun _ => ⟨x_in 1533 (by decide +kernel) rfl, x_in 111 (by decide +kernel) rfl⟩, fun h => absurd h (by decide)⟩
set_option maxRecDepth 50000 in
theorem yoX11_pull : XY yX11_pull cX11_pull 3 (some .int) 1 1 := ⟨List.mem_of_getElem? (i := 1538) rfl, x_in 138 (by decide +kernel) rfl, by decide +kernel, fun h => absurd h (by decide), fun _ => ⟨x_in 1537 (by decide +kernel) rfl, x_in 112 (by decide +kernel) rfl⟩, fun h => absurd h (by decide)⟩
set_option maxRecDepth 50000 in
theorem yoX11_rest : XY yX11_rest cX11_rest 4 none 1 1 := ⟨List.mem_of_getElem? (i := 1542) rfl, x_in 138 (by decide +kernel) rfl, by decide +kernel, fun h => absurd h (by decide), fun _ => ⟨x_in 1541 (by decide +kernel) rfl, x_in 113 (by decide +kernel) rfl⟩, fun h => absurd h (by decide)⟩
set_option maxRecDepth 50000 in
theorem yoX11_addOrTake : XY yX11_addOrTake cX11_addOrTake 7 none 5 1 := ⟨List.mem_of_getElem? (i := 1546) rfl, x_in 138 (by decide +kernel) rfl, by decide +kernel, fun h => absurd h (by decide), fun _ => ⟨x_in 1545 (by decide +kernel) rfl, x_in 114 (by decide +kernel) rfl⟩, fun h => absurd h (by decide)⟩
set_option maxRecDepth 50000 in
theorem yoX11_compare : XY yX11_compare cX11_compare 7 none 4 1 := ⟨List.mem_of_getElem? (i := 1550) rfl, x_in 138 (by decide +kernel) rfl, by decide +kernel, fun h => absurd h (by decide), fun _ => ⟨x_in 1549 (by decide +kernel) rfl, x_in 115 (by decide +kernel) rfl⟩, fun h => absurd h (by decide)⟩
set_option maxRecDepth 50000 in
theorem yoX11_logic : XY yX11_logic cX11_logic 8 none 5 1 := ⟨List.mem_of_getElem? (i := 1554) rfl, x_in 138 (by decide +kernel) rfl, by decide +kernel, fun h => absurd h (by decide), fun _ => ⟨x_in 1553 (by decide +kernel) rfl, x_in 116 (by decide +kernel) rfl⟩, fun h => absurd h (by decide)⟩
set_option maxRecDepth 50000 in
theorem yoX11_divide : XY yX11_divide cX11_divide 9 none 4 1 := ⟨List.mem_of_getElem? (i := 1558) rfl, x_in 138 (by decide +kernel) rfl, by decide +kernel, fun h => absurd h (by decide), fun _ => ⟨x_in 1557 (by decide +kernel) rfl, x_in 117 (by decide +kernel) rfl⟩, fun h => absurd h (by decide)⟩
set_option maxRecDepth 50000 in
theorem yoX11_inTens : XY yX11_inTens cX11_inTens 5 none 3 1 := ⟨List.mem_of_getElem? (i := 1565) rfl, x_in 138 (by decide +kernel) rfl, by decide +kernel, fun h => absurd h (by decide), fun _ => ⟨x_in 1564 (by decide +kernel) rfl, x_in 118 (by decide +kernel) rfl⟩, fun h => absurd h (by decide)⟩
set_option maxRecDepth 50000 in
theorem yoX11_exchange : XY yX11_exchange cX11_exchange 4 none 2 1 := ⟨List.mem_of_getElem? (i := 1569) rfl, x_in 138 (by decide +kernel) rfl, by decide +kernel, fun h => absurd h (by decide), fun _ => ⟨x_in 1568 (by decide +kernel) rfl, x_in 119 (by decide +kernel) rfl⟩, fun h => absurd h (by decide)⟩
set_option maxRecDepth 50000 in
theorem yoX11_quick : XY yX11_quick cX11_quick 10 none 4 1 := ⟨List.mem_of_getElem? (i := 1573) rfl, x_in 138 (by decide +kernel) rfl, by decide +kernel, fun h => absurd h (by decide), fun _ => ⟨x_in 1572 (by decide +kernel) rfl, x_in 120 (by decide +kernel) rfl⟩, fun h => absurd h (by decide)⟩
set_option maxRecDepth 50000 in
theorem yoX11_holds : XY yX11_holds cX11_holds 5 (some .boolean) 1 1 := ⟨List.mem_of_getElem? (i := 1577) rfl, x_in 138 (by decide +kernel) rfl, by decide +kernel, fun h => absurd h (by decide), fun _ => ⟨x_in 1576 (by decide +kernel) rfl, x_in 121 (by decide +kernel) rfl⟩, fun h => absurd h (by decide)⟩
set_option maxRecDepth 50000 in
theorem yoX11_branch : XY yX11_branch cX11_branch 5 none 1 1 := ⟨List.mem_of_getElem? (i := 1581) rfl, x_in 138 (by decide +kernel) rfl, by decide +kernel, fun h => absurd h (by decide), fun _ => ⟨x_in 1580 (by decide +kernel) rfl, x_in 122 (by decide +kernel) rfl⟩, fun h => absurd h (by decide)⟩
set_option maxRecDepth 50000 in
theorem yoX11_twelve : XY yX11_twelve cX11_twelve 9 none 4 1 := ⟨List.mem_of_getElem? (i := 1585) rfl, x_in 138 (by decide +kernel) rfl, by decide +kernel, fun h => absurd h (by decide), fun _ => ⟨x_in 1584 (by decide +kernel) rfl, x_in 123 (by decide +kernel) rfl⟩, fun h => absurd h (by decide)⟩
set_option maxRecDepth 50000 in
theorem yoX11_peripheral : XY yX11_peripheral cX11_peripheral 8 none 3 1 := ⟨List.mem_of_getElem? (i := 1589) rfl, x_in 138 (by decide +kernel) rfl, by decide +kernel, fun h => absurd h (by decide), fun _ => ⟨x_in 1588 (by decide +kernel) rfl, x_in 124 (by decide +kernel) rfl⟩, fun h => absurd h (by decide)⟩
set_option maxRecDepth 50000 in
theorem yoX11_bits : XY yX11_bits cX11_bits 7 none 3 1 := ⟨List.mem_of_getElem? (i := 1593) rfl, x_in 138 (by decide +kernel) rfl, by decide +kernel, fun h => absurd h (by decide), fun _ => ⟨x_in 1592 (by decide +kernel) rfl, x_in 125 (by decide +kernel) rfl⟩, fun h => absurd h (by decide)⟩
set_option maxRecDepth 50000 in
theorem yoX11_shifts : XY yX11_shifts cX11_shifts 6 none 4 1 := ⟨List.mem_of_getElem? (i := 1597) rfl, x_in 138 (by decide +kernel) rfl, by decide +kernel, fun h => absurd h (by decide), fun _ => ⟨x_in 1596 (by decide +kernel) rfl, x_in 126 (by decide +kernel) rfl⟩, fun h => absurd h (by decide)⟩
set_option maxRecDepth 50000 in
theorem yoX11_shifted : XY yX11_shifted cX11_shifted 13 (some .int) 5 1 := ⟨List.mem_of_getElem? (i := 1601) rfl, x_in 138 (by decide +kernel) rfl, by decide +kernel, fun h => absurd h (by decide), fun _ => ⟨x_in 1600 (by decide +kernel) rfl, x_in 127 (by decide +kernel) rfl⟩, fun h => absurd h (by decide)⟩
set_option maxRecDepth 50000 in
theorem yoX11_fourteen : XY yX11_fourteen cX11_fourteen 8 none 5 1 := ⟨List.mem_of_getElem? (i := 1606) rfl, x_in 138 (by decide +kernel) rfl, by decide +kernel, fun h => absurd h (by decide), fun _ => ⟨x_in 1605 (by decide +kernel) rfl, x_in 128 (by decide +kernel) rfl⟩, fun h => absurd h (by decide)⟩
set_option maxRecDepth 50000 in
theorem yoX11_run : XY yX11_run cX11_run 4 (some .int) 1 1 := ⟨List.mem_of_getElem? (i := 1610) rfl, x_in 138 (by decide +kernel) rfl, by decide +kernel, fun h => absurd h (by decide), fun _ => ⟨x_in 1608 (by decide +kernel) rfl, x_in 1609 (by decide +kernel) rfl⟩, fun h => absurd h (by decide)⟩
set_option maxRecDepth 50000 in
theorem yoX11_level : XY yX11_level cX11_level 2 none 1 1 := ⟨List.mem_of_getElem? (i := 1614) rfl, x_in 138 (by decide +kernel) rfl, by decide +kernel, fun h => absurd h (by decide), fun _ => ⟨x_in 1612 (by decide +kernel) rfl, x_in 1613 (by decide +kernel) rfl⟩, fun h => absurd h (by decide)⟩
set_option maxRecDepth 50000 in
theorem yoX11_type : XY yX11_type cX11_type 2 (some .boolean) 1 1 := ⟨List.mem_of_getElem? (i := 1618) rfl, x_in 138 (by decide +kernel) rfl, by decide +kernel, fun h => absurd h (by decide), fun _ => ⟨x_in 1616 (by decide +kernel) rfl, x_in 1617 (by decide +kernel) rfl⟩, fun h => absurd h (by decide)⟩
set_option maxRecDepth 50000 in
theorem yoX11_said : XY yX11_said cX11_said 2 (some .int) 1 1 := ⟨List.mem_of_getElem? (i := 1622) rfl, x_in 138 (by decide +kernel) rfl, by decide +kernel, fun h => absurd h (by decide), fun _ => ⟨x_in 1620 (by decide +kernel) rfl, x_in 1621 (by decide +kernel) rfl⟩, fun h => absurd h (by decide)⟩
set_option maxRecDepth 50000 in
theorem yoX11_get : XY yX11_get cX11_get 2 (some .int) 1 1 := ⟨List.mem_of_getElem? (i := 1626) rfl, x_in 138 (by decide +kernel) rfl, by decide +kernel, fun h => absurd h (by decide), fun _ => ⟨x_in 1624 (by decide +kernel) rfl, x_in 1625 (by decide +kernel) rfl⟩, fun h => absurd h (by decide)⟩
set_option maxRecDepth 50000 in
theorem yoX11_set : XY yX11_set cX11_set 3 none 2 1 := ⟨List.mem_of_getElem? (i := 1630) rfl, x_in 138 (by decide +kernel) rfl, by decide +kernel, fun h => absurd h (by decide), fun _ => ⟨x_in 1628 (by decide +kernel) rfl, x_in 1629 (by decide +kernel) rfl⟩, fun h => absurd h (by decide)⟩
set_option maxRecDepth 50000 in
theorem yoX11_memory : XY yX11_memory cX11_memory 2 (some .int) 1 1 := ⟨List.mem_of_getElem? (i := 1634) rfl, x_in 138 (by decide +kernel) rfl, by decide +kernel, fun h => absurd h (by decide), fun _ => ⟨x_in 1632 (by decide +kernel) rfl, x_in 1633 (by decide +kernel) rfl⟩, fun h => absurd h (by decide)⟩
set_option maxRecDepth 50000 in
theorem yoX11_device : XY yX11_device cX11_device 2 (some .int) 1 1 := ⟨List.mem_of_getElem? (i := 1638) rfl, x_in 138 (by decide +kernel) rfl, by decide +kernel, fun h => absurd h (by decide), fun _ => ⟨x_in 1636 (by decide +kernel) rfl, x_in 1637 (by decide +kernel) rfl⟩, fun h => absurd h (by decide)⟩
set_option maxRecDepth 50000 in
theorem yoX11_state : XY yX11_state cX11_state 1 (some .int) 0 1 := ⟨List.mem_of_getElem? (i := 1642) rfl, x_in 138 (by decide +kernel) rfl, by decide +kernel, fun h => absurd h (by decide), fun _ => ⟨x_in 1640 (by decide +kernel) rfl, x_in 1641 (by decide +kernel) rfl⟩, fun h => absurd h (by decide)⟩
set_option maxRecDepth 50000 in
theorem yoX11_counted : XY yX11_counted cX11_counted 2 (some .int) 1 1 := ⟨List.mem_of_getElem? (i := 1646) rfl, x_in 138 (by decide +kernel) rfl, by decide +kernel, fun h => absurd h (by decide), fun _ => ⟨x_in 1644 (by decide +kernel) rfl, x_in 1645 (by decide +kernel) rfl⟩, fun h => absurd h (by decide)⟩
theorem ml_L_47 : Cond.methodLink RL 47 yX10_init ∈ xtb := x_in 153 (by decide +kernel) rfl
theorem ml_X10_11 : Cond.methodLink RX10 11 yX8_init ∈ xtb := x_in 161 (by decide +kernel) rfl
theorem ml_X10_18 : Cond.methodLink RX10 18 yX2_init ∈ xtb := x_in 180 (by decide +kernel) rfl
theorem ml_X10_27 : Cond.methodLink RX10 27 yX7_init ∈ xtb := x_in 242 (by decide +kernel) rfl
theorem ml_X7_35 : Cond.methodLink RX7 35 yX6_init ∈ xtb := x_in 248 (by decide +kernel) rfl
theorem ml_X7_51 : Cond.methodLink RX7 51 yX4_init ∈ xtb := x_in 291 (by decide +kernel) rfl
theorem ml_X4_36 : Cond.methodLink RX4 36 yX1_init ∈ xtb := x_in 297 (by decide +kernel) rfl
theorem ml_L_70 : Cond.methodLink RL 70 yX10_reset ∈ xtb := x_in 386 (by decide +kernel) rfl
theorem ml_X10_52 : Cond.methodLink RX10 52 yX7_startAnew ∈ xtb := x_in 390 (by decide +kernel) rfl
theorem ml_X7_58 : Cond.methodLink RX7 58 yX8_changeStatus ∈ xtb := x_in 394 (by decide +kernel) rfl
theorem ml_X7_62 : Cond.methodLink RX7 62 yX2_clearError ∈ xtb := x_in 399 (by decide +kernel) rfl
theorem ml_X7_67 : Cond.methodLink RX7 67 yX2_read ∈ xtb := x_in 403 (by decide +kernel) rfl
theorem ml_X2_30 : Cond.methodLink RX2 30 yX2_allows ∈ xtb := x_in 411 (by decide +kernel) rfl
theorem ml_X2_34 : Cond.methodLink RX2 34 yX2_readByte ∈ xtb := x_in 415 (by decide +kernel) rfl
theorem ml_X7_71 : Cond.methodLink RX7 71 yX2_quietTimer ∈ xtb := x_in 419 (by decide +kernel) rfl
theorem ml_L_85 : Cond.methodLink RL 85 yX10_type ∈ xtb := x_in 423 (by decide +kernel) rfl
theorem ml_X10_69 : Cond.methodLink RX10 69 yX2_enqueue ∈ xtb := x_in 427 (by decide +kernel) rfl
theorem ml_L_90 : Cond.methodLink RL 90 yX10_said ∈ xtb := x_in 431 (by decide +kernel) rfl
theorem ml_L_100 : Cond.methodLink RL 100 yX10_memory ∈ xtb := x_in 435 (by decide +kernel) rfl
theorem ml_L_107 : Cond.methodLink RL 107 yX10_state ∈ xtb := x_in 439 (by decide +kernel) rfl
theorem ml_L_111 : Cond.methodLink RL 111 yX10_counted ∈ xtb := x_in 443 (by decide +kernel) rfl
theorem ml_L_51 : Cond.methodLink RL 51 yL_put ∈ xtb := x_in 447 (by decide +kernel) rfl
theorem ml_L_7 : Cond.methodLink RL 7 yX10_put ∈ xtb := x_in 451 (by decide +kernel) rfl
theorem ml_X10_34 : Cond.methodLink RX10 34 yX10_isPlaceOfWords ∈ xtb := x_in 455 (by decide +kernel) rfl
theorem ml_X10_41 : Cond.methodLink RX10 41 yX2_store ∈ xtb := x_in 521 (by decide +kernel) rfl
theorem ml_L_62 : Cond.methodLink RL 62 yL_fill ∈ xtb := x_in 525 (by decide +kernel) rfl
theorem ml_L_15 : Cond.methodLink RL 15 yX10_fill ∈ xtb := x_in 529 (by decide +kernel) rfl
theorem ml_L_66 : Cond.methodLink RL 66 yL_fence ∈ xtb := x_in 548 (by decide +kernel) rfl
theorem ml_L_21 : Cond.methodLink RL 21 yX10_fence ∈ xtb := x_in 551 (by decide +kernel) rfl
theorem ml_L_74 : Cond.methodLink RL 74 yL_step ∈ xtb := x_in 555 (by decide +kernel) rfl
theorem ml_L_25 : Cond.methodLink RL 25 yX10_step ∈ xtb := x_in 559 (by decide +kernel) rfl
theorem ml_X10_62 : Cond.methodLink RX10 62 yX7_advance ∈ xtb := x_in 578 (by decide +kernel) rfl
theorem ml_X7_93 : Cond.methodLink RX7 93 yJ9_max_7cf53 ∈ xtb := x_in 582 (by decide +kernel) rfl
theorem ml_X7_99 : Cond.methodLink RX7 99 yX7_maskOfLevels ∈ xtb := x_in 585 (by decide +kernel) rfl
theorem ml_X7_103 : Cond.methodLink RX7 103 yX7_interrupt ∈ xtb := x_in 589 (by decide +kernel) rfl
theorem ml_X7_121 : Cond.methodLink RX7 121 yX7_workOff ∈ xtb := x_in 593 (by decide +kernel) rfl
theorem ml_X7_172 : Cond.methodLink RX7 172 yX7_enters ∈ xtb := x_in 597 (by decide +kernel) rfl
theorem ml_X7_124 : Cond.methodLink RX7 124 yX8_keep ∈ xtb := x_in 601 (by decide +kernel) rfl
theorem ml_X7_181 : Cond.methodLink RX7 181 yX6_push ∈ xtb := x_in 608 (by decide +kernel) rfl
theorem ml_X6_61 : Cond.methodLink RX6 61 yX2_write ∈ xtb := x_in 613 (by decide +kernel) rfl
theorem ml_X2_37 : Cond.methodLink RX2 37 yX2_writeByte ∈ xtb := x_in 617 (by decide +kernel) rfl
theorem ml_X7_169 : Cond.methodLink RX7 169 yX7_isOfGroupZero ∈ xtb := x_in 622 (by decide +kernel) rfl
theorem ml_X7_163 : Cond.methodLink RX7 163 yX8_takeBack ∈ xtb := x_in 625 (by decide +kernel) rfl
theorem ml_X7_107 : Cond.methodLink RX7 107 yX7_begin ∈ xtb := x_in 629 (by decide +kernel) rfl
theorem ml_X7_128 : Cond.methodLink RX7 128 yX8_has ∈ xtb := x_in 634 (by decide +kernel) rfl
theorem ml_X7_135 : Cond.methodLink RX7 135 yX6_fetch ∈ xtb := x_in 638 (by decide +kernel) rfl
theorem ml_X6_24 : Cond.methodLink RX6 24 yX2_read ∈ xtb := x_in 642 (by decide +kernel) rfl
theorem ml_X7_147 : Cond.methodLink RX7 147 yX3_decode ∈ xtb := x_in 645 (by decide +kernel) rfl
theorem ml_X3_15 : Cond.methodLink RX3 15 yX3_moving ∈ xtb := x_in 649 (by decide +kernel) rfl
theorem ml_X3_111 : Cond.methodLink RX3 111 yX3_operand ∈ xtb := x_in 653 (by decide +kernel) rfl
theorem ml_X3_118 : Cond.methodLink RX3 118 yX9_isAny ∈ xtb := x_in 657 (by decide +kernel) rfl
theorem ml_X9_11 : Cond.methodLink RX9 11 yX9_of ∈ xtb := x_in 660 (by decide +kernel) rfl
theorem ml_X3_124 : Cond.methodLink RX3 124 yX9_isOpen ∈ xtb := x_in 663 (by decide +kernel) rfl
theorem ml_X3_128 : Cond.methodLink RX3 128 yX3_isAddressRegister ∈ xtb := x_in 666 (by decide +kernel) rfl
theorem ml_X3_137 : Cond.methodLink RX3 137 yX9_of ∈ xtb := x_in 669 (by decide +kernel) rfl
theorem ml_X3_114 : Cond.methodLink RX3 114 yX3_pair ∈ xtb := x_in 674 (by decide +kernel) rfl
theorem ml_X3_19 : Cond.methodLink RX3 19 yX3_ofGroupThree ∈ xtb := x_in 680 (by decide +kernel) rfl
theorem ml_X3_175 : Cond.methodLink RX3 175 yX9_isOpenData ∈ xtb := x_in 684 (by decide +kernel) rfl
theorem ml_X3_193 : Cond.methodLink RX3 193 yX3_single ∈ xtb := x_in 689 (by decide +kernel) rfl
theorem ml_X3_178 : Cond.methodLink RX3 178 yX9_isData ∈ xtb := x_in 699 (by decide +kernel) rfl
theorem ml_X3_151 : Cond.methodLink RX3 151 yX3_mode ∈ xtb := x_in 714 (by decide +kernel) rfl
theorem ml_X3_237 : Cond.methodLink RX3 237 yX9_isControl ∈ xtb := x_in 722 (by decide +kernel) rfl
theorem ml_X3_285 : Cond.methodLink RX3 285 yX3_isRowToStore ∈ xtb := x_in 729 (by decide +kernel) rfl
theorem ml_X3_292 : Cond.methodLink RX3 292 yX3_isRowToLoad ∈ xtb := x_in 735 (by decide +kernel) rfl
theorem ml_X3_301 : Cond.methodLink RX3 301 yX3_withoutOperands ∈ xtb := x_in 743 (by decide +kernel) rfl
theorem ml_X3_319 : Cond.methodLink RX3 319 yX3_ofLastEight ∈ xtb := x_in 757 (by decide +kernel) rfl
theorem ml_X3_154 : Cond.methodLink RX3 154 yX3_lowerRegister ∈ xtb := x_in 761 (by decide +kernel) rfl
theorem ml_X3_34 : Cond.methodLink RX3 34 yX3_summing ∈ xtb := x_in 784 (by decide +kernel) rfl
theorem ml_X3_141 : Cond.methodLink RX3 141 yX3_upperRegister ∈ xtb := x_in 788 (by decide +kernel) rfl
theorem ml_X3_144 : Cond.methodLink RX3 144 yX3_z ∈ xtb := x_in 792 (by decide +kernel) rfl
theorem ml_X3_147 : Cond.methodLink RX3 147 yX3_withAddress ∈ xtb := x_in 796 (by decide +kernel) rfl
theorem ml_X3_80 : Cond.methodLink RX3 80 yX3_bit8 ∈ xtb := x_in 800 (by decide +kernel) rfl
theorem ml_X3_157 : Cond.methodLink RX3 157 yX9_before ∈ xtb := x_in 804 (by decide +kernel) rfl
theorem ml_X3_160 : Cond.methodLink RX3 160 yX9_isOpenMemory ∈ xtb := x_in 807 (by decide +kernel) rfl
theorem ml_X3_47 : Cond.methodLink RX3 47 yX3_comparing ∈ xtb := x_in 816 (by decide +kernel) rfl
theorem ml_X3_169 : Cond.methodLink RX3 169 yX9_behind ∈ xtb := x_in 824 (by decide +kernel) rfl
theorem ml_X3_59 : Cond.methodLink RX3 59 yX3_joining ∈ xtb := x_in 835 (by decide +kernel) rfl
theorem ml_X3_181 : Cond.methodLink RX3 181 yX3_exchanging ∈ xtb := x_in 839 (by decide +kernel) rfl
theorem ml_X3_71 : Cond.methodLink RX3 71 yX3_quick ∈ xtb := x_in 851 (by decide +kernel) rfl
theorem ml_X3_84 : Cond.methodLink RX3 84 yX3_byRegister ∈ xtb := x_in 867 (by decide +kernel) rfl
theorem ml_X3_209 : Cond.methodLink RX3 209 yX3_bits ∈ xtb := x_in 875 (by decide +kernel) rfl
theorem ml_X3_87 : Cond.methodLink RX3 87 yX3_byNumber ∈ xtb := x_in 879 (by decide +kernel) rfl
theorem ml_X3_213 : Cond.methodLink RX3 213 yX3_withNumber ∈ xtb := x_in 883 (by decide +kernel) rfl
theorem ml_X3_90 : Cond.methodLink RX3 90 yX3_shifting ∈ xtb := x_in 893 (by decide +kernel) rfl
theorem ml_X3_93 : Cond.methodLink RX3 93 yX3_ofGroupFourteen ∈ xtb := x_in 901 (by decide +kernel) rfl
theorem ml_X7_111 : Cond.methodLink RX7 111 yX4_perform ∈ xtb := x_in 915 (by decide +kernel) rfl
theorem ml_X4_62 : Cond.methodLink RX4 62 yX4_readSource ∈ xtb := x_in 927 (by decide +kernel) rfl
theorem ml_X4_241 : Cond.methodLink RX4 241 yX6_find ∈ xtb := x_in 931 (by decide +kernel) rfl
theorem ml_X6_28 : Cond.methodLink RX6 28 yX9_of ∈ xtb := x_in 935 (by decide +kernel) rfl
theorem ml_X6_41 : Cond.methodLink RX6 41 yX6_stride ∈ xtb := x_in 936 (by decide +kernel) rfl
theorem ml_X6_45 : Cond.methodLink RX6 45 yX6_fetch ∈ xtb := x_in 939 (by decide +kernel) rfl
theorem ml_X6_51 : Cond.methodLink RX6 51 yX6_index ∈ xtb := x_in 943 (by decide +kernel) rfl
theorem ml_X4_244 : Cond.methodLink RX4 244 yX6_read ∈ xtb := x_in 947 (by decide +kernel) rfl
theorem ml_X6_54 : Cond.methodLink RX6 54 yX6_isRegister ∈ xtb := x_in 951 (by decide +kernel) rfl
theorem ml_X4_70 : Cond.methodLink RX4 70 yX1_tested ∈ xtb := x_in 959 (by decide +kernel) rfl
theorem ml_X1_15 : Cond.methodLink RX1 15 yX1_signs ∈ xtb := x_in 963 (by decide +kernel) rfl
theorem ml_X1_19 : Cond.methodLink RX1 19 yX8_changeFlags ∈ xtb := x_in 967 (by decide +kernel) rfl
theorem ml_X4_74 : Cond.methodLink RX4 74 yX4_overwrite ∈ xtb := x_in 971 (by decide +kernel) rfl
theorem ml_X4_253 : Cond.methodLink RX4 253 yX6_write ∈ xtb := x_in 975 (by decide +kernel) rfl
theorem ml_X4_78 : Cond.methodLink RX4 78 yX4_change ∈ xtb := x_in 979 (by decide +kernel) rfl
theorem ml_X4_256 : Cond.methodLink RX4 256 yX1_combined ∈ xtb := x_in 983 (by decide +kernel) rfl
theorem ml_X1_37 : Cond.methodLink RX1 37 yX1_total ∈ xtb := x_in 989 (by decide +kernel) rfl
theorem ml_X1_54 : Cond.methodLink RX1 54 yX1_x ∈ xtb := x_in 993 (by decide +kernel) rfl
theorem ml_X1_63 : Cond.methodLink RX1 63 yX8_has ∈ xtb := x_in 997 (by decide +kernel) rfl
theorem ml_X1_41 : Cond.methodLink RX1 41 yX1_addedInTens ∈ xtb := x_in 1002 (by decide +kernel) rfl
theorem ml_X1_71 : Cond.methodLink RX1 71 yX1_settledInTens ∈ xtb := x_in 1006 (by decide +kernel) rfl
theorem ml_X1_44 : Cond.methodLink RX1 44 yX1_subtractedInTens ∈ xtb := x_in 1010 (by decide +kernel) rfl
theorem ml_X1_47 : Cond.methodLink RX1 47 yX1_tested ∈ xtb := x_in 1014 (by decide +kernel) rfl
theorem ml_X4_82 : Cond.methodLink RX4 82 yX4_compare ∈ xtb := x_in 1015 (by decide +kernel) rfl
theorem ml_X4_85 : Cond.methodLink RX4 85 yX4_changeAddress ∈ xtb := x_in 1020 (by decide +kernel) rfl
theorem ml_X4_88 : Cond.methodLink RX4 88 yX4_compareAddress ∈ xtb := x_in 1027 (by decide +kernel) rfl
theorem ml_X4_91 : Cond.methodLink RX4 91 yX4_multiply ∈ xtb := x_in 1031 (by decide +kernel) rfl
theorem ml_X4_116 : Cond.methodLink RX4 116 yX3_upperRegister ∈ xtb := x_in 1035 (by decide +kernel) rfl
theorem ml_X4_270 : Cond.methodLink RX4 270 yX3_bit8 ∈ xtb := x_in 1037 (by decide +kernel) rfl
theorem ml_X4_94 : Cond.methodLink RX4 94 yX4_divide ∈ xtb := x_in 1038 (by decide +kernel) rfl
theorem ml_X4_160 : Cond.methodLink RX4 160 yX8_changeFlags ∈ xtb := x_in 1043 (by decide +kernel) rfl
theorem ml_X4_100 : Cond.methodLink RX4 100 yX4_checkBounds ∈ xtb := x_in 1044 (by decide +kernel) rfl
theorem ml_X4_107 : Cond.methodLink RX4 107 yX4_quickNumber ∈ xtb := x_in 1049 (by decide +kernel) rfl
theorem ml_X4_110 : Cond.methodLink RX4 110 yX4_changeQuick ∈ xtb := x_in 1053 (by decide +kernel) rfl
theorem ml_X4_277 : Cond.methodLink RX4 277 yX9_of ∈ xtb := x_in 1057 (by decide +kernel) rfl
theorem ml_X4_119 : Cond.methodLink RX4 119 yX4_changeBit ∈ xtb := x_in 1059 (by decide +kernel) rfl
theorem ml_X4_285 : Cond.methodLink RX4 285 yX3_z ∈ xtb := x_in 1066 (by decide +kernel) rfl
theorem ml_X4_122 : Cond.methodLink RX4 122 yX6_fetch ∈ xtb := x_in 1067 (by decide +kernel) rfl
theorem ml_X4_128 : Cond.methodLink RX4 128 yX4_shiftRegister ∈ xtb := x_in 1068 (by decide +kernel) rfl
theorem ml_X4_288 : Cond.methodLink RX4 288 yX1_shifted ∈ xtb := x_in 1072 (by decide +kernel) rfl
theorem ml_X4_131 : Cond.methodLink RX4 131 yX4_shiftMemory ∈ xtb := x_in 1077 (by decide +kernel) rfl
theorem ml_X4_134 : Cond.methodLink RX4 134 yX4_negate ∈ xtb := x_in 1081 (by decide +kernel) rfl
theorem ml_X4_144 : Cond.methodLink RX4 144 yX4_turn ∈ xtb := x_in 1087 (by decide +kernel) rfl
theorem ml_X4_147 : Cond.methodLink RX4 147 yX4_extend ∈ xtb := x_in 1091 (by decide +kernel) rfl
theorem ml_X4_150 : Cond.methodLink RX4 150 yX4_testAndSet ∈ xtb := x_in 1095 (by decide +kernel) rfl
theorem ml_X4_153 : Cond.methodLink RX4 153 yX3_condition ∈ xtb := x_in 1099 (by decide +kernel) rfl
theorem ml_X4_156 : Cond.methodLink RX4 156 yX8_holds ∈ xtb := x_in 1103 (by decide +kernel) rfl
theorem ml_X8_25 : Cond.methodLink RX8 25 yX8_has ∈ xtb := x_in 1107 (by decide +kernel) rfl
theorem ml_X4_164 : Cond.methodLink RX4 164 yX8_changeStatus ∈ xtb := x_in 1108 (by decide +kernel) rfl
theorem ml_X4_167 : Cond.methodLink RX4 167 yX4_storeMany ∈ xtb := x_in 1109 (by decide +kernel) rfl
theorem ml_X4_292 : Cond.methodLink RX4 292 yX4_storeManyBefore ∈ xtb := x_in 1113 (by decide +kernel) rfl
theorem ml_X4_295 : Cond.methodLink RX4 295 yX2_write ∈ xtb := x_in 1118 (by decide +kernel) rfl
theorem ml_X4_170 : Cond.methodLink RX4 170 yX4_loadMany ∈ xtb := x_in 1119 (by decide +kernel) rfl
theorem ml_X4_301 : Cond.methodLink RX4 301 yX2_read ∈ xtb := x_in 1123 (by decide +kernel) rfl
theorem ml_X4_173 : Cond.methodLink RX4 173 yX4_address ∈ xtb := x_in 1124 (by decide +kernel) rfl
theorem ml_X4_176 : Cond.methodLink RX4 176 yX6_push ∈ xtb := x_in 1128 (by decide +kernel) rfl
theorem ml_X4_179 : Cond.methodLink RX4 179 yX4_call ∈ xtb := x_in 1129 (by decide +kernel) rfl
theorem ml_X4_182 : Cond.methodLink RX4 182 yX4_branch ∈ xtb := x_in 1133 (by decide +kernel) rfl
theorem ml_X4_185 : Cond.methodLink RX4 185 yX4_countDown ∈ xtb := x_in 1137 (by decide +kernel) rfl
theorem ml_X4_227 : Cond.methodLink RX4 227 yX3_lowerRegister ∈ xtb := x_in 1141 (by decide +kernel) rfl
theorem ml_X4_188 : Cond.methodLink RX4 188 yX4_moveBytes ∈ xtb := x_in 1143 (by decide +kernel) rfl
theorem ml_X4_304 : Cond.methodLink RX4 304 yX4_loadBytes ∈ xtb := x_in 1147 (by decide +kernel) rfl
theorem ml_X4_307 : Cond.methodLink RX4 307 yX4_storeBytes ∈ xtb := x_in 1152 (by decide +kernel) rfl
theorem ml_X4_191 : Cond.methodLink RX4 191 yX4_performRest ∈ xtb := x_in 1156 (by decide +kernel) rfl
theorem ml_X4_194 : Cond.methodLink RX4 194 yX4_exchange ∈ xtb := x_in 1160 (by decide +kernel) rfl
theorem ml_X4_197 : Cond.methodLink RX4 197 yX4_moveQuick ∈ xtb := x_in 1164 (by decide +kernel) rfl
theorem ml_X4_200 : Cond.methodLink RX4 200 yX4_statusJoined ∈ xtb := x_in 1168 (by decide +kernel) rfl
theorem ml_X4_203 : Cond.methodLink RX4 203 yX4_swap ∈ xtb := x_in 1172 (by decide +kernel) rfl
theorem ml_X4_206 : Cond.methodLink RX4 206 yX6_pull ∈ xtb := x_in 1176 (by decide +kernel) rfl
theorem ml_X4_209 : Cond.methodLink RX4 209 yX4_returnWithFlags ∈ xtb := x_in 1180 (by decide +kernel) rfl
theorem ml_X4_212 : Cond.methodLink RX4 212 yX4_returnFromException ∈ xtb := x_in 1184 (by decide +kernel) rfl
theorem ml_X4_218 : Cond.methodLink RX4 218 yX8_has ∈ xtb := x_in 1188 (by decide +kernel) rfl
theorem ml_X4_221 : Cond.methodLink RX4 221 yX4_link ∈ xtb := x_in 1189 (by decide +kernel) rfl
theorem ml_X4_224 : Cond.methodLink RX4 224 yX4_unlink ∈ xtb := x_in 1193 (by decide +kernel) rfl
theorem ml_X4_230 : Cond.methodLink RX4 230 yX2_quietTimer ∈ xtb := x_in 1197 (by decide +kernel) rfl
theorem ml_X4_235 : Cond.methodLink RX4 235 yX4_stop ∈ xtb := x_in 1198 (by decide +kernel) rfl
theorem ml_X7_115 : Cond.methodLink RX7 115 yX7_end ∈ xtb := x_in 1202 (by decide +kernel) rfl
theorem ml_X7_160 : Cond.methodLink RX7 160 yX7_isOfInstruction ∈ xtb := x_in 1206 (by decide +kernel) rfl
theorem ml_X7_118 : Cond.methodLink RX7 118 yX2_tick ∈ xtb := x_in 1209 (by decide +kernel) rfl
theorem ml_L_78 : Cond.methodLink RL 78 yL_run ∈ xtb := x_in 1213 (by decide +kernel) rfl
theorem ml_L_31 : Cond.methodLink RL 31 yX10_run ∈ xtb := x_in 1216 (by decide +kernel) rfl
theorem ml_L_82 : Cond.methodLink RL 82 yL_level ∈ xtb := x_in 1220 (by decide +kernel) rfl
theorem ml_L_35 : Cond.methodLink RL 35 yX10_level ∈ xtb := x_in 1223 (by decide +kernel) rfl
theorem ml_L_94 : Cond.methodLink RL 94 yL_get ∈ xtb := x_in 1227 (by decide +kernel) rfl
theorem ml_L_38 : Cond.methodLink RL 38 yX10_get ∈ xtb := x_in 1230 (by decide +kernel) rfl
theorem ml_L_97 : Cond.methodLink RL 97 yL_set ∈ xtb := x_in 1234 (by decide +kernel) rfl
theorem ml_L_41 : Cond.methodLink RL 41 yX10_set ∈ xtb := x_in 1237 (by decide +kernel) rfl
theorem ml_X10_83 : Cond.methodLink RX10 83 yX8_changeStatus ∈ xtb := x_in 1241 (by decide +kernel) rfl
theorem ml_L_104 : Cond.methodLink RL 104 yL_device ∈ xtb := x_in 1242 (by decide +kernel) rfl
theorem ml_L_44 : Cond.methodLink RL 44 yX10_device ∈ xtb := x_in 1245 (by decide +kernel) rfl
theorem ml_L_50 : Cond.methodLink RL 50 yX11_init ∈ xtb := x_in 1251 (by decide +kernel) rfl
theorem ml_L_57 : Cond.methodLink RL 57 yX11_thrown ∈ xtb := x_in 1337 (by decide +kernel) rfl
theorem ml_L_56 : Cond.methodLink RL 56 yX11_put ∈ xtb := x_in 1341 (by decide +kernel) rfl
theorem ml_L_65 : Cond.methodLink RL 65 yX11_fill ∈ xtb := x_in 1345 (by decide +kernel) rfl
theorem ml_L_69 : Cond.methodLink RL 69 yX11_fence ∈ xtb := x_in 1349 (by decide +kernel) rfl
theorem ml_L_73 : Cond.methodLink RL 73 yX11_reset ∈ xtb := x_in 1353 (by decide +kernel) rfl
theorem ml_X11_202 : Cond.methodLink RX11 202 yX11_setStatus ∈ xtb := x_in 1357 (by decide +kernel) rfl
theorem ml_X11_306 : Cond.methodLink RX11 306 yX11_longAt ∈ xtb := x_in 1362 (by decide +kernel) rfl
theorem ml_L_77 : Cond.methodLink RL 77 yX11_step ∈ xtb := x_in 1366 (by decide +kernel) rfl
theorem ml_X11_309 : Cond.methodLink RX11 309 yX11_stepped ∈ xtb := x_in 1370 (by decide +kernel) rfl
theorem ml_X11_294 : Cond.methodLink RX11 294 yX11_work ∈ xtb := x_in 1374 (by decide +kernel) rfl
theorem ml_X11_282 : Cond.methodLink RX11 282 yX11_tried ∈ xtb := x_in 1378 (by decide +kernel) rfl
theorem ml_X11_271 : Cond.methodLink RX11 271 yX11_keep ∈ xtb := x_in 1382 (by decide +kernel) rfl
theorem ml_X11_55 : Cond.methodLink RX11 55 yX11_has ∈ xtb := x_in 1386 (by decide +kernel) rfl
theorem ml_X11_209 : Cond.methodLink RX11 209 yX11_push ∈ xtb := x_in 1391 (by decide +kernel) rfl
theorem ml_X11_99 : Cond.methodLink RX11 99 yX11_write ∈ xtb := x_in 1395 (by decide +kernel) rfl
theorem ml_X11_83 : Cond.methodLink RX11 83 yX11_fails ∈ xtb := x_in 1399 (by decide +kernel) rfl
theorem ml_X11_51 : Cond.methodLink RX11 51 yX11_isDevice ∈ xtb := x_in 1404 (by decide +kernel) rfl
theorem ml_X11_91 : Cond.methodLink RX11 91 yX11_writeByte ∈ xtb := x_in 1407 (by decide +kernel) rfl
theorem ml_X11_95 : Cond.methodLink RX11 95 yX11_read ∈ xtb := x_in 1412 (by decide +kernel) rfl
theorem ml_X11_87 : Cond.methodLink RX11 87 yX11_readByte ∈ xtb := x_in 1416 (by decide +kernel) rfl
theorem ml_X11_279 : Cond.methodLink RX11 279 yX11_back ∈ xtb := x_in 1420 (by decide +kernel) rfl
theorem ml_X11_303 : Cond.methodLink RX11 303 yX11_instruct ∈ xtb := x_in 1424 (by decide +kernel) rfl
theorem ml_X11_103 : Cond.methodLink RX11 103 yX11_fetch ∈ xtb := x_in 1429 (by decide +kernel) rfl
theorem ml_X11_285 : Cond.methodLink RX11 285 yX11_isLegal ∈ xtb := x_in 1433 (by decide +kernel) rfl
theorem ml_X11_141 : Cond.methodLink RX11 141 yX11_fits ∈ xtb := x_in 1436 (by decide +kernel) rfl
theorem ml_X11_145 : Cond.methodLink RX11 145 yX11_isLegalThree ∈ xtb := x_in 1439 (by decide +kernel) rfl
theorem ml_X11_149 : Cond.methodLink RX11 149 yX11_isLegalTwelve ∈ xtb := x_in 1442 (by decide +kernel) rfl
theorem ml_X11_153 : Cond.methodLink RX11 153 yX11_isStatus ∈ xtb := x_in 1445 (by decide +kernel) rfl
theorem ml_X11_288 : Cond.methodLink RX11 288 yX11_isPrivileged ∈ xtb := x_in 1448 (by decide +kernel) rfl
theorem ml_X11_291 : Cond.methodLink RX11 291 yX11_perform ∈ xtb := x_in 1451 (by decide +kernel) rfl
theorem ml_X11_156 : Cond.methodLink RX11 156 yX11_move ∈ xtb := x_in 1455 (by decide +kernel) rfl
theorem ml_X11_190 : Cond.methodLink RX11 190 yX11_loadAt ∈ xtb := x_in 1459 (by decide +kernel) rfl
theorem ml_X11_125 : Cond.methodLink RX11 125 yX11_find ∈ xtb := x_in 1463 (by decide +kernel) rfl
theorem ml_X11_113 : Cond.methodLink RX11 113 yX11_index ∈ xtb := x_in 1467 (by decide +kernel) rfl
theorem ml_X11_116 : Cond.methodLink RX11 116 yX11_findMore ∈ xtb := x_in 1471 (by decide +kernel) rfl
theorem ml_X11_119 : Cond.methodLink RX11 119 yX11_number ∈ xtb := x_in 1475 (by decide +kernel) rfl
theorem ml_X11_122 : Cond.methodLink RX11 122 yX11_mask ∈ xtb := x_in 1479 (by decide +kernel) rfl
theorem ml_X11_128 : Cond.methodLink RX11 128 yX11_load ∈ xtb := x_in 1483 (by decide +kernel) rfl
theorem ml_X11_131 : Cond.methodLink RX11 131 yX11_extend ∈ xtb := x_in 1487 (by decide +kernel) rfl
theorem ml_X11_193 : Cond.methodLink RX11 193 yX11_store ∈ xtb := x_in 1490 (by decide +kernel) rfl
theorem ml_X11_196 : Cond.methodLink RX11 196 yX11_test ∈ xtb := x_in 1494 (by decide +kernel) rfl
theorem ml_X11_135 : Cond.methodLink RX11 135 yX11_flag ∈ xtb := x_in 1498 (by decide +kernel) rfl
theorem ml_X11_159 : Cond.methodLink RX11 159 yX11_three ∈ xtb := x_in 1502 (by decide +kernel) rfl
theorem ml_X11_199 : Cond.methodLink RX11 199 yX11_one ∈ xtb := x_in 1506 (by decide +kernel) rfl
theorem ml_X11_221 : Cond.methodLink RX11 221 yX11_sum ∈ xtb := x_in 1510 (by decide +kernel) rfl
theorem ml_X11_205 : Cond.methodLink RX11 205 yX11_tens ∈ xtb := x_in 1515 (by decide +kernel) rfl
theorem ml_X11_212 : Cond.methodLink RX11 212 yX11_extendOrStore ∈ xtb := x_in 1519 (by decide +kernel) rfl
theorem ml_X11_225 : Cond.methodLink RX11 225 yX11_keepIn ∈ xtb := x_in 1523 (by decide +kernel) rfl
theorem ml_X11_215 : Cond.methodLink RX11 215 yX11_loadMany ∈ xtb := x_in 1527 (by decide +kernel) rfl
theorem ml_X11_218 : Cond.methodLink RX11 218 yX11_system ∈ xtb := x_in 1531 (by decide +kernel) rfl
theorem ml_X11_231 : Cond.methodLink RX11 231 yX11_pull ∈ xtb := x_in 1535 (by decide +kernel) rfl
theorem ml_X11_234 : Cond.methodLink RX11 234 yX11_rest ∈ xtb := x_in 1539 (by decide +kernel) rfl
theorem ml_X11_162 : Cond.methodLink RX11 162 yX11_addOrTake ∈ xtb := x_in 1543 (by decide +kernel) rfl
theorem ml_X11_166 : Cond.methodLink RX11 166 yX11_compare ∈ xtb := x_in 1547 (by decide +kernel) rfl
theorem ml_X11_170 : Cond.methodLink RX11 170 yX11_logic ∈ xtb := x_in 1551 (by decide +kernel) rfl
theorem ml_X11_240 : Cond.methodLink RX11 240 yX11_divide ∈ xtb := x_in 1555 (by decide +kernel) rfl
theorem ml_X11_244 : Cond.methodLink RX11 244 yX11_inTens ∈ xtb := x_in 1562 (by decide +kernel) rfl
theorem ml_X11_248 : Cond.methodLink RX11 248 yX11_exchange ∈ xtb := x_in 1566 (by decide +kernel) rfl
theorem ml_X11_173 : Cond.methodLink RX11 173 yX11_quick ∈ xtb := x_in 1570 (by decide +kernel) rfl
theorem ml_X11_257 : Cond.methodLink RX11 257 yX11_holds ∈ xtb := x_in 1574 (by decide +kernel) rfl
theorem ml_X11_176 : Cond.methodLink RX11 176 yX11_branch ∈ xtb := x_in 1578 (by decide +kernel) rfl
theorem ml_X11_180 : Cond.methodLink RX11 180 yX11_twelve ∈ xtb := x_in 1582 (by decide +kernel) rfl
theorem ml_X11_260 : Cond.methodLink RX11 260 yX11_peripheral ∈ xtb := x_in 1586 (by decide +kernel) rfl
theorem ml_X11_263 : Cond.methodLink RX11 263 yX11_bits ∈ xtb := x_in 1590 (by decide +kernel) rfl
theorem ml_X11_183 : Cond.methodLink RX11 183 yX11_shifts ∈ xtb := x_in 1594 (by decide +kernel) rfl
theorem ml_X11_266 : Cond.methodLink RX11 266 yX11_shifted ∈ xtb := x_in 1598 (by decide +kernel) rfl
theorem ml_X11_186 : Cond.methodLink RX11 186 yX11_fourteen ∈ xtb := x_in 1603 (by decide +kernel) rfl
theorem ml_L_81 : Cond.methodLink RL 81 yX11_run ∈ xtb := x_in 1607 (by decide +kernel) rfl
theorem ml_L_84 : Cond.methodLink RL 84 yX11_level ∈ xtb := x_in 1611 (by decide +kernel) rfl
theorem ml_L_89 : Cond.methodLink RL 89 yX11_type ∈ xtb := x_in 1615 (by decide +kernel) rfl
theorem ml_L_93 : Cond.methodLink RL 93 yX11_said ∈ xtb := x_in 1619 (by decide +kernel) rfl
theorem ml_L_96 : Cond.methodLink RL 96 yX11_get ∈ xtb := x_in 1623 (by decide +kernel) rfl
theorem ml_L_99 : Cond.methodLink RL 99 yX11_set ∈ xtb := x_in 1627 (by decide +kernel) rfl
theorem ml_L_103 : Cond.methodLink RL 103 yX11_memory ∈ xtb := x_in 1631 (by decide +kernel) rfl
theorem ml_L_106 : Cond.methodLink RL 106 yX11_device ∈ xtb := x_in 1635 (by decide +kernel) rfl
theorem ml_L_110 : Cond.methodLink RL 110 yX11_state ∈ xtb := x_in 1639 (by decide +kernel) rfl
theorem ml_L_114 : Cond.methodLink RL 114 yX11_counted ∈ xtb := x_in 1643 (by decide +kernel) rfl
theorem ml_X7_44 : (RX7, 44, yX3_init, RX10) ∈ nst := List.mem_of_getElem? (i := 0) rfl
theorem ml_X2_26 : (RX2, 26, yX10_bytesOf, RX10) ∈ nst := List.mem_of_getElem? (i := 1) rfl
theorem ml_X6_65 : (RX6, 65, yX10_bytesOf, RX10) ∈ nst := List.mem_of_getElem? (i := 2) rfl
theorem ml_X6_48 : (RX6, 48, yX10_extended, RX10) ∈ nst := List.mem_of_getElem? (i := 3) rfl
theorem ml_X6_58 : (RX6, 58, yX10_maskOf, RX10) ∈ nst := List.mem_of_getElem? (i := 4) rfl
theorem ml_X1_60 : (RX1, 60, yX10_extended, RX10) ∈ nst := List.mem_of_getElem? (i := 5) rfl
theorem ml_X1_67 : (RX1, 67, yX10_withoutSign, RX10) ∈ nst := List.mem_of_getElem? (i := 6) rfl
theorem ml_X1_57 : (RX1, 57, yX10_maskOf, RX10) ∈ nst := List.mem_of_getElem? (i := 7) rfl
theorem ml_X4_97 : (RX4, 97, yX10_extended, RX10) ∈ nst := List.mem_of_getElem? (i := 8) rfl
theorem ml_X4_273 : (RX4, 273, yX10_withoutSign, RX10) ∈ nst := List.mem_of_getElem? (i := 9) rfl
theorem ml_X4_282 : (RX4, 282, yX10_bitsOf, RX10) ∈ nst := List.mem_of_getElem? (i := 10) rfl
theorem ml_X1_50 : (RX1, 50, yX10_bitsOf, RX10) ∈ nst := List.mem_of_getElem? (i := 11) rfl
theorem ml_X4_298 : (RX4, 298, yX10_bytesOf, RX10) ∈ nst := List.mem_of_getElem? (i := 12) rfl
theorem ml_X4_310 : (RX4, 310, yX10_maskOf, RX10) ∈ nst := List.mem_of_getElem? (i := 13) rfl
