/-! every method is looked at (4) -/
theorem am_q346 : (am_k346.all (am_ck 346) && am_sq am_k346) = true := by decide +kernel
theorem am_q347 : (am_k347.all (am_ck 347) && am_sq am_k347) = true := by decide +kernel
theorem am_q348 : (am_k348.all (am_ck 348) && am_sq am_k348) = true := by decide +kernel
theorem am_q349 : (am_k349.all (am_ck 349) && am_sq am_k349) = true := by decide +kernel
theorem am_q350 : (am_k350.all (am_ck 350) && am_sq am_k350) = true := by decide +kernel
theorem am_q351 : (am_k351.all (am_ck 351) && am_sq am_k351) = true := by decide +kernel
theorem am_q352 : (am_k352.all (am_ck 352) && am_sq am_k352) = true := by decide +kernel
theorem am_q353 : (am_k353.all (am_ck 353) && am_sq am_k353) = true := by decide +kernel
theorem am_q354 : (am_k354.all (am_ck 354) && am_sq am_k354) = true := by decide +kernel
theorem am_q355 : (am_k355.all (am_ck 355) && am_sq am_k355) = true := by decide +kernel
theorem am_q356 : (am_k356.all (am_ck 356) && am_sq am_k356) = true := by decide +kernel
theorem am_q357 : (am_k357.all (am_ck 357) && am_sq am_k357) = true := by decide +kernel
theorem am_q358 : (am_k358.all (am_ck 358) && am_sq am_k358) = true := by decide +kernel
theorem am_q359 : (am_k359.all (am_ck 359) && am_sq am_k359) = true := by decide +kernel
theorem am_q360 : (am_k360.all (am_ck 360) && am_sq am_k360) = true := by decide +kernel
theorem am_q361 : (am_k361.all (am_ck 361) && am_sq am_k361) = true := by decide +kernel
theorem am_q362 : (am_k362.all (am_ck 362) && am_sq am_k362) = true := by decide +kernel
theorem am_q363 : (am_k363.all (am_ck 363) && am_sq am_k363) = true := by decide +kernel
theorem am_q364 : (am_k364.all (am_ck 364) && am_sq am_k364) = true := by decide +kernel
theorem am_q365 : (am_k365.all (am_ck 365) && am_sq am_k365) = true := by decide +kernel
theorem am_q366 : (am_k366.all (am_ck 366) && am_sq am_k366) = true := by decide +kernel
theorem am_q367 : (am_k367.all (am_ck 367) && am_sq am_k367) = true := by decide +kernel
theorem am_q368 : (am_k368.all (am_ck 368) && am_sq am_k368) = true := by decide +kernel
theorem am_q369 : (am_k369.all (am_ck 369) && am_sq am_k369) = true := by decide +kernel
theorem am_q370 : (am_k370.all (am_ck 370) && am_sq am_k370) = true := by decide +kernel
theorem am_q371 : (am_k371.all (am_ck 371) && am_sq am_k371) = true := by decide +kernel
theorem am_q372 : (am_k372.all (am_ck 372) && am_sq am_k372) = true := by decide +kernel
theorem am_q373 : (am_k373.all (am_ck 373) && am_sq am_k373) = true := by decide +kernel
theorem am_q374 : (am_k374.all (am_ck 374) && am_sq am_k374) = true := by decide +kernel
theorem am_q375 : (am_k375.all (am_ck 375) && am_sq am_k375) = true := by decide +kernel
theorem am_q376 : (am_k376.all (am_ck 376) && am_sq am_k376) = true := by decide +kernel
theorem am_q377 : (am_k377.all (am_ck 377) && am_sq am_k377) = true := by decide +kernel
theorem am_q378 : (am_k378.all (am_ck 378) && am_sq am_k378) = true := by decide +kernel
theorem am_q379 : (am_k379.all (am_ck 379) && am_sq am_k379) = true := by decide +kernel
theorem am_q380 : (am_k380.all (am_ck 380) && am_sq am_k380) = true := by decide +kernel
theorem am_q381 : (am_k381.all (am_ck 381) && am_sq am_k381) = true := by decide +kernel
theorem am_q382 : (am_k382.all (am_ck 382) && am_sq am_k382) = true := by decide +kernel
theorem am_q383 : (am_k383.all (am_ck 383) && am_sq am_k383) = true := by decide +kernel
theorem am_q384 : (am_k384.all (am_ck 384) && am_sq am_k384) = true := by decide +kernel
theorem am_q385 : (am_k385.all (am_ck 385) && am_sq am_k385) = true := by decide +kernel
theorem am_q386 : (am_k386.all (am_ck 386) && am_sq am_k386) = true := by decide +kernel
theorem am_q387 : (am_k387.all (am_ck 387) && am_sq am_k387) = true := by decide +kernel
theorem am_q388 : (am_k388.all (am_ck 388) && am_sq am_k388) = true := by decide +kernel
theorem am_q389 : (am_k389.all (am_ck 389) && am_sq am_k389) = true := by decide +kernel
theorem am_q390 : (am_k390.all (am_ck 390) && am_sq am_k390) = true := by decide +kernel
theorem am_q391 : (am_k391.all (am_ck 391) && am_sq am_k391) = true := by decide +kernel
theorem am_q392 : (am_k392.all (am_ck 392) && am_sq am_k392) = true := by decide +kernel
theorem am_q393 : (am_k393.all (am_ck 393) && am_sq am_k393) = true := by decide +kernel
theorem am_q394 : (am_k394.all (am_ck 394) && am_sq am_k394) = true := by decide +kernel
theorem am_q395 : (am_k395.all (am_ck 395) && am_sq am_k395) = true := by decide +kernel
theorem am_q396 : (am_k396.all (am_ck 396) && am_sq am_k396) = true := by decide +kernel
theorem am_q397 : (am_k397.all (am_ck 397) && am_sq am_k397) = true := by decide +kernel
theorem am_q398 : (am_k398.all (am_ck 398) && am_sq am_k398) = true := by decide +kernel
theorem am_q399 : (am_k399.all (am_ck 399) && am_sq am_k399) = true := by decide +kernel
theorem am_q400 : (am_k400.all (am_ck 400) && am_sq am_k400) = true := by decide +kernel
theorem am_q401 : (am_k401.all (am_ck 401) && am_sq am_k401) = true := by decide +kernel
theorem am_q402 : (am_k402.all (am_ck 402) && am_sq am_k402) = true := by decide +kernel
theorem am_q403 : (am_k403.all (am_ck 403) && am_sq am_k403) = true := by decide +kernel
theorem am_q404 : (am_k404.all (am_ck 404) && am_sq am_k404) = true := by decide +kernel
theorem am_q405 : (am_k405.all (am_ck 405) && am_sq am_k405) = true := by decide +kernel
theorem am_q406 : (am_k406.all (am_ck 406) && am_sq am_k406) = true := by decide +kernel
theorem am_q407 : (am_k407.all (am_ck 407) && am_sq am_k407) = true := by decide +kernel
theorem am_q408 : (am_k408.all (am_ck 408) && am_sq am_k408) = true := by decide +kernel
theorem am_q409 : (am_k409.all (am_ck 409) && am_sq am_k409) = true := by decide +kernel
theorem am_q410 : (am_k410.all (am_ck 410) && am_sq am_k410) = true := by decide +kernel
theorem am_q411_0 : am_k411_0.all (am_ck 411) = true := by decide +kernel
theorem am_q411_1 : am_k411_1.all (am_ck 411) = true := by decide +kernel
theorem am_q411_2 : am_k411_2.all (am_ck 411) = true := by decide +kernel
theorem am_q411_3 : am_k411_3.all (am_ck 411) = true := by decide +kernel
theorem am_q411_4 : am_k411_4.all (am_ck 411) = true := by decide +kernel
theorem am_q411_5 : am_k411_5.all (am_ck 411) = true := by decide +kernel
theorem am_q411_6 : am_k411_6.all (am_ck 411) = true := by decide +kernel
theorem am_q411_7 : am_k411_7.all (am_ck 411) = true := by decide +kernel
theorem am_q411_8 : am_k411_8.all (am_ck 411) = true := by decide +kernel
theorem am_q411_9 : am_k411_9.all (am_ck 411) = true := by decide +kernel
theorem am_q411_s : am_sq am_k411 = true := by decide +kernel
theorem am_q411 : (am_k411.all (am_ck 411) && am_sq am_k411) = true := by
  unfold am_k411
  rw [Bool.and_eq_true]
  refine ⟨?_, am_q411_s⟩
  simp only [List.all_append, am_q411_0, am_q411_1, am_q411_2, am_q411_3, am_q411_4, am_q411_5, am_q411_6, am_q411_7, am_q411_8, am_q411_9, Bool.and_self]
