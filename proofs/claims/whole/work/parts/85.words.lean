/-! the words of the methods that are called -/
set_option maxRecDepth 50000 in
theorem mo0 : mokP mi0_ := ⟨inTT (p := 581) rfl rfl, (fun _ => inTT (p := 580) rfl rfl), (fun h => absurd h (by decide)), inTT (p := 71) rfl rfl, by decide, by decide, by decide +kernel, by decide +kernel, by decide⟩
set_option maxRecDepth 50000 in
theorem mo1 : mokP mi1 := ⟨inTT (p := 359) rfl rfl, (fun h => absurd h (by decide)), (fun _ => ⟨inTT (p := 357) rfl rfl, inTT (p := 358) rfl rfl⟩), inTT (p := 67) rfl rfl, by decide, by decide, by decide +kernel, by decide +kernel, by decide⟩
set_option maxRecDepth 50000 in
theorem mo2 : mokP mi2 := ⟨inTT (p := 363) rfl rfl, (fun h => absurd h (by decide)), (fun _ => ⟨inTT (p := 361) rfl rfl, inTT (p := 362) rfl rfl⟩), inTT (p := 67) rfl rfl, by decide, by decide, by decide +kernel, by decide +kernel, by decide⟩
set_option maxRecDepth 50000 in
theorem mo3 : mokP mi3 := ⟨inTT (p := 373) rfl rfl, (fun h => absurd h (by decide)), (fun _ => ⟨inTT (p := 371) rfl rfl, inTT (p := 372) rfl rfl⟩), inTT (p := 67) rfl rfl, by decide, by decide, by decide +kernel, by decide +kernel, by decide⟩
set_option maxRecDepth 50000 in
theorem mo4 : mokP mi4 := ⟨inTT (p := 369) rfl rfl, (fun h => absurd h (by decide)), (fun _ => ⟨inTT (p := 367) rfl rfl, inTT (p := 368) rfl rfl⟩), inTT (p := 67) rfl rfl, by decide, by decide, by decide +kernel, by decide +kernel, by decide⟩
set_option maxRecDepth 50000 in
theorem mo5 : mokP mi5 := ⟨inTT (p := 379) rfl rfl, (fun _ => inTT (p := 378) rfl rfl), (fun h => absurd h (by decide)), inTT (p := 67) rfl rfl, by decide, by decide, by decide +kernel, by decide +kernel, by decide⟩
set_option maxRecDepth 50000 in
theorem mo6 : mokP mi6 := ⟨inTT (p := 376) rfl rfl, (fun _ => inTT (p := 375) rfl rfl), (fun h => absurd h (by decide)), inTT (p := 68) rfl rfl, by decide, by decide, by decide +kernel, by decide +kernel, by decide⟩
set_option maxRecDepth 50000 in
theorem mo7 : mokP mi7 := ⟨inTT (p := 384) rfl rfl, (fun _ => inTT (p := 383) rfl rfl), (fun h => absurd h (by decide)), inTT (p := 69) rfl rfl, by decide, by decide, by decide +kernel, by decide +kernel, by decide⟩
set_option maxRecDepth 50000 in
theorem mo8 : mokP mi8 := ⟨inTT (p := 338) rfl rfl, (fun h => absurd h (by decide)), (fun _ => ⟨inTT (p := 336) rfl rfl, inTT (p := 337) rfl rfl⟩), inTT (p := 62) rfl rfl, by decide, by decide, by decide +kernel, by decide +kernel, by decide⟩
set_option maxRecDepth 50000 in
theorem mo9 : mokP mi9 := ⟨inTT (p := 432) rfl rfl, (fun h => absurd h (by decide)), (fun _ => ⟨inTT (p := 431) rfl rfl, inTT (p := 6) rfl rfl⟩), inTT (p := 62) rfl rfl, by decide, by decide, by decide +kernel, by decide +kernel, by decide⟩
set_option maxRecDepth 50000 in
theorem mo10 : mokP mi10 := ⟨inTT (p := 428) rfl rfl, (fun h => absurd h (by decide)), (fun _ => ⟨inTT (p := 427) rfl rfl, inTT (p := 5) rfl rfl⟩), inTT (p := 62) rfl rfl, by decide, by decide, by decide +kernel, by decide +kernel, by decide⟩
set_option maxRecDepth 50000 in
theorem mo11 : mokP mi11 := ⟨inTT (p := 464) rfl rfl, (fun h => absurd h (by decide)), (fun _ => ⟨inTT (p := 463) rfl rfl, inTT (p := 14) rfl rfl⟩), inTT (p := 62) rfl rfl, by decide, by decide, by decide +kernel, by decide +kernel, by decide⟩
set_option maxRecDepth 50000 in
theorem mo12 : mokP mi12 := ⟨inTT (p := 436) rfl rfl, (fun h => absurd h (by decide)), (fun _ => ⟨inTT (p := 435) rfl rfl, inTT (p := 7) rfl rfl⟩), inTT (p := 62) rfl rfl, by decide, by decide, by decide +kernel, by decide +kernel, by decide⟩
set_option maxRecDepth 50000 in
theorem mo13 : mokP mi13 := ⟨inTT (p := 440) rfl rfl, (fun h => absurd h (by decide)), (fun _ => ⟨inTT (p := 439) rfl rfl, inTT (p := 8) rfl rfl⟩), inTT (p := 62) rfl rfl, by decide, by decide, by decide +kernel, by decide +kernel, by decide⟩
set_option maxRecDepth 50000 in
theorem mo14 : mokP mi14 := ⟨inTT (p := 444) rfl rfl, (fun h => absurd h (by decide)), (fun _ => ⟨inTT (p := 443) rfl rfl, inTT (p := 9) rfl rfl⟩), inTT (p := 62) rfl rfl, by decide, by decide, by decide +kernel, by decide +kernel, by decide⟩
set_option maxRecDepth 50000 in
theorem mo15 : mokP mi15 := ⟨inTT (p := 448) rfl rfl, (fun h => absurd h (by decide)), (fun _ => ⟨inTT (p := 447) rfl rfl, inTT (p := 10) rfl rfl⟩), inTT (p := 62) rfl rfl, by decide, by decide, by decide +kernel, by decide +kernel, by decide⟩
set_option maxRecDepth 50000 in
theorem mo16 : mokP mi16 := ⟨inTT (p := 452) rfl rfl, (fun h => absurd h (by decide)), (fun _ => ⟨inTT (p := 451) rfl rfl, inTT (p := 11) rfl rfl⟩), inTT (p := 62) rfl rfl, by decide, by decide, by decide +kernel, by decide +kernel, by decide⟩
set_option maxRecDepth 50000 in
theorem mo17 : mokP mi17 := ⟨inTT (p := 456) rfl rfl, (fun h => absurd h (by decide)), (fun _ => ⟨inTT (p := 455) rfl rfl, inTT (p := 12) rfl rfl⟩), inTT (p := 62) rfl rfl, by decide, by decide, by decide +kernel, by decide +kernel, by decide⟩
set_option maxRecDepth 50000 in
theorem mo18 : mokP mi18 := ⟨inTT (p := 460) rfl rfl, (fun h => absurd h (by decide)), (fun _ => ⟨inTT (p := 459) rfl rfl, inTT (p := 13) rfl rfl⟩), inTT (p := 62) rfl rfl, by decide, by decide, by decide +kernel, by decide +kernel, by decide⟩
set_option maxRecDepth 50000 in
theorem mo19 : mokP mi19 := ⟨inTT (p := 343) rfl rfl, (fun h => absurd h (by decide)), (fun _ => ⟨inTT (p := 342) rfl rfl, inTT (p := 1) rfl rfl⟩), inTT (p := 62) rfl rfl, by decide, by decide, by decide +kernel, by decide +kernel, by decide⟩
set_option maxRecDepth 50000 in
theorem mo20 : mokP mi20 := ⟨inTT (p := 350) rfl rfl, (fun h => absurd h (by decide)), (fun _ => ⟨inTT (p := 349) rfl rfl, inTT (p := 2) rfl rfl⟩), inTT (p := 62) rfl rfl, by decide, by decide, by decide +kernel, by decide +kernel, by decide⟩
set_option maxRecDepth 50000 in
theorem mo21 : mokP mi21 := ⟨inTT (p := 355) rfl rfl, (fun h => absurd h (by decide)), (fun _ => ⟨inTT (p := 354) rfl rfl, inTT (p := 3) rfl rfl⟩), inTT (p := 62) rfl rfl, by decide, by decide, by decide +kernel, by decide +kernel, by decide⟩
set_option maxRecDepth 50000 in
theorem mo22 : mokP mi22 := ⟨inTT (p := 421) rfl rfl, (fun h => absurd h (by decide)), (fun _ => ⟨inTT (p := 420) rfl rfl, inTT (p := 4) rfl rfl⟩), inTT (p := 62) rfl rfl, by decide, by decide, by decide +kernel, by decide +kernel, by decide⟩
set_option maxRecDepth 50000 in
theorem mo23 : mokP mi23 := ⟨inTT (p := 346) rfl rfl, (fun _ => inTT (p := 345) rfl rfl), (fun h => absurd h (by decide)), inTT (p := 62) rfl rfl, by decide, by decide, by decide +kernel, by decide +kernel, by decide⟩
set_option maxRecDepth 50000 in
theorem mo24 : mokP mi24 := ⟨inTT (p := 417) rfl rfl, (fun _ => inTT (p := 416) rfl rfl), (fun h => absurd h (by decide)), inTT (p := 62) rfl rfl, by decide, by decide, by decide +kernel, by decide +kernel, by decide⟩
set_option maxRecDepth 50000 in
theorem mo25 : mokP mi25 := ⟨inTT (p := 424) rfl rfl, (fun _ => inTT (p := 423) rfl rfl), (fun h => absurd h (by decide)), inTT (p := 62) rfl rfl, by decide, by decide, by decide +kernel, by decide +kernel, by decide⟩
set_option maxRecDepth 50000 in
theorem mo26 : mokP mi26 := ⟨inTT (p := 617) rfl rfl, (fun h => absurd h (by decide)), (fun _ => ⟨inTT (p := 615) rfl rfl, inTT (p := 616) rfl rfl⟩), inTT (p := 64) rfl rfl, by decide, by decide, by decide +kernel, by decide +kernel, by decide⟩
set_option maxRecDepth 50000 in
theorem mo27 : mokP mi27 := ⟨inTT (p := 701) rfl rfl, (fun h => absurd h (by decide)), (fun _ => ⟨inTT (p := 699) rfl rfl, inTT (p := 700) rfl rfl⟩), inTT (p := 64) rfl rfl, by decide, by decide, by decide +kernel, by decide +kernel, by decide⟩
set_option maxRecDepth 50000 in
theorem mo28 : mokP mi28 := ⟨inTT (p := 653) rfl rfl, (fun h => absurd h (by decide)), (fun _ => ⟨inTT (p := 651) rfl rfl, inTT (p := 652) rfl rfl⟩), inTT (p := 64) rfl rfl, by decide, by decide, by decide +kernel, by decide +kernel, by decide⟩
set_option maxRecDepth 50000 in
theorem mo29 : mokP mi29 := ⟨inTT (p := 625) rfl rfl, (fun h => absurd h (by decide)), (fun _ => ⟨inTT (p := 623) rfl rfl, inTT (p := 624) rfl rfl⟩), inTT (p := 64) rfl rfl, by decide, by decide, by decide +kernel, by decide +kernel, by decide⟩
set_option maxRecDepth 50000 in
theorem mo30 : mokP mi30 := ⟨inTT (p := 657) rfl rfl, (fun h => absurd h (by decide)), (fun _ => ⟨inTT (p := 655) rfl rfl, inTT (p := 656) rfl rfl⟩), inTT (p := 64) rfl rfl, by decide, by decide, by decide +kernel, by decide +kernel, by decide⟩
set_option maxRecDepth 50000 in
theorem mo31 : mokP mi31 := ⟨inTT (p := 705) rfl rfl, (fun h => absurd h (by decide)), (fun _ => ⟨inTT (p := 703) rfl rfl, inTT (p := 704) rfl rfl⟩), inTT (p := 64) rfl rfl, by decide, by decide, by decide +kernel, by decide +kernel, by decide⟩
set_option maxRecDepth 50000 in
theorem mo32 : mokP mi32 := ⟨inTT (p := 544) rfl rfl, (fun h => absurd h (by decide)), (fun _ => ⟨inTT (p := 542) rfl rfl, inTT (p := 543) rfl rfl⟩), inTT (p := 63) rfl rfl, by decide, by decide, by decide +kernel, by decide +kernel, by decide⟩
set_option maxRecDepth 50000 in
theorem mo33 : mokP mi33 := ⟨inTT (p := 477) rfl rfl, (fun h => absurd h (by decide)), (fun _ => ⟨inTT (p := 475) rfl rfl, inTT (p := 476) rfl rfl⟩), inTT (p := 63) rfl rfl, by decide, by decide, by decide +kernel, by decide +kernel, by decide⟩
set_option maxRecDepth 50000 in
theorem mo34 : mokP mi34 := ⟨inTT (p := 486) rfl rfl, (fun h => absurd h (by decide)), (fun _ => ⟨inTT (p := 484) rfl rfl, inTT (p := 485) rfl rfl⟩), inTT (p := 63) rfl rfl, by decide, by decide, by decide +kernel, by decide +kernel, by decide⟩
set_option maxRecDepth 50000 in
theorem mo35 : mokP mi35 := ⟨inTT (p := 275) rfl rfl, (fun h => absurd h (by decide)), (fun _ => ⟨inTT (p := 273) rfl rfl, inTT (p := 274) rfl rfl⟩), inTT (p := 63) rfl rfl, by decide, by decide, by decide +kernel, by decide +kernel, by decide⟩
set_option maxRecDepth 50000 in
theorem mo36 : mokP mi36 := ⟨inTT (p := 319) rfl rfl, (fun h => absurd h (by decide)), (fun _ => ⟨inTT (p := 317) rfl rfl, inTT (p := 318) rfl rfl⟩), inTT (p := 63) rfl rfl, by decide, by decide, by decide +kernel, by decide +kernel, by decide⟩
set_option maxRecDepth 50000 in
theorem mo37 : mokP mi37 := ⟨inTT (p := 271) rfl rfl, (fun h => absurd h (by decide)), (fun _ => ⟨inTT (p := 269) rfl rfl, inTT (p := 270) rfl rfl⟩), inTT (p := 63) rfl rfl, by decide, by decide, by decide +kernel, by decide +kernel, by decide⟩
set_option maxRecDepth 50000 in
theorem mo38 : mokP mi38 := ⟨inTT (p := 509) rfl rfl, (fun h => absurd h (by decide)), (fun _ => ⟨inTT (p := 507) rfl rfl, inTT (p := 508) rfl rfl⟩), inTT (p := 63) rfl rfl, by decide, by decide, by decide +kernel, by decide +kernel, by decide⟩
set_option maxRecDepth 50000 in
theorem mo39 : mokP mi39 := ⟨inTT (p := 596) rfl rfl, (fun h => absurd h (by decide)), (fun _ => ⟨inTT (p := 594) rfl rfl, inTT (p := 595) rfl rfl⟩), inTT (p := 63) rfl rfl, by decide, by decide, by decide +kernel, by decide +kernel, by decide⟩
set_option maxRecDepth 50000 in
theorem mo40 : mokP mi40 := ⟨inTT (p := 279) rfl rfl, (fun h => absurd h (by decide)), (fun _ => ⟨inTT (p := 277) rfl rfl, inTT (p := 278) rfl rfl⟩), inTT (p := 63) rfl rfl, by decide, by decide, by decide +kernel, by decide +kernel, by decide⟩
set_option maxRecDepth 50000 in
theorem mo41 : mokP mi41 := ⟨inTT (p := 303) rfl rfl, (fun h => absurd h (by decide)), (fun _ => ⟨inTT (p := 301) rfl rfl, inTT (p := 302) rfl rfl⟩), inTT (p := 63) rfl rfl, by decide, by decide, by decide +kernel, by decide +kernel, by decide⟩
set_option maxRecDepth 50000 in
theorem mo42 : mokP mi42 := ⟨inTT (p := 504) rfl rfl, (fun h => absurd h (by decide)), (fun _ => ⟨inTT (p := 502) rfl rfl, inTT (p := 503) rfl rfl⟩), inTT (p := 63) rfl rfl, by decide, by decide, by decide +kernel, by decide +kernel, by decide⟩
set_option maxRecDepth 50000 in
theorem mo43 : mokP mi43 := ⟨inTT (p := 267) rfl rfl, (fun h => absurd h (by decide)), (fun _ => ⟨inTT (p := 265) rfl rfl, inTT (p := 266) rfl rfl⟩), inTT (p := 63) rfl rfl, by decide, by decide, by decide +kernel, by decide +kernel, by decide⟩
set_option maxRecDepth 50000 in
theorem mo44 : mokP mi44 := ⟨inTT (p := 528) rfl rfl, (fun h => absurd h (by decide)), (fun _ => ⟨inTT (p := 526) rfl rfl, inTT (p := 527) rfl rfl⟩), inTT (p := 63) rfl rfl, by decide, by decide, by decide +kernel, by decide +kernel, by decide⟩
set_option maxRecDepth 50000 in
theorem mo45 : mokP mi45 := ⟨inTT (p := 518) rfl rfl, (fun h => absurd h (by decide)), (fun _ => ⟨inTT (p := 516) rfl rfl, inTT (p := 517) rfl rfl⟩), inTT (p := 63) rfl rfl, by decide, by decide, by decide +kernel, by decide +kernel, by decide⟩
set_option maxRecDepth 50000 in
theorem mo46 : mokP mi46 := ⟨inTT (p := 523) rfl rfl, (fun h => absurd h (by decide)), (fun _ => ⟨inTT (p := 521) rfl rfl, inTT (p := 522) rfl rfl⟩), inTT (p := 63) rfl rfl, by decide, by decide, by decide +kernel, by decide +kernel, by decide⟩
set_option maxRecDepth 50000 in
theorem mo47 : mokP mi47 := ⟨inTT (p := 307) rfl rfl, (fun h => absurd h (by decide)), (fun _ => ⟨inTT (p := 305) rfl rfl, inTT (p := 306) rfl rfl⟩), inTT (p := 63) rfl rfl, by decide, by decide, by decide +kernel, by decide +kernel, by decide⟩
set_option maxRecDepth 50000 in
theorem mo48 : mokP mi48 := ⟨inTT (p := 311) rfl rfl, (fun h => absurd h (by decide)), (fun _ => ⟨inTT (p := 309) rfl rfl, inTT (p := 310) rfl rfl⟩), inTT (p := 63) rfl rfl, by decide, by decide, by decide +kernel, by decide +kernel, by decide⟩
set_option maxRecDepth 50000 in
theorem mo49 : mokP mi49 := ⟨inTT (p := 315) rfl rfl, (fun h => absurd h (by decide)), (fun _ => ⟨inTT (p := 313) rfl rfl, inTT (p := 314) rfl rfl⟩), inTT (p := 63) rfl rfl, by decide, by decide, by decide +kernel, by decide +kernel, by decide⟩
set_option maxRecDepth 50000 in
theorem mo50 : mokP mi50 := ⟨inTT (p := 287) rfl rfl, (fun h => absurd h (by decide)), (fun _ => ⟨inTT (p := 285) rfl rfl, inTT (p := 286) rfl rfl⟩), inTT (p := 63) rfl rfl, by decide, by decide, by decide +kernel, by decide +kernel, by decide⟩
set_option maxRecDepth 50000 in
theorem mo51 : mokP mi51 := ⟨inTT (p := 220) rfl rfl, (fun h => absurd h (by decide)), (fun _ => ⟨inTT (p := 218) rfl rfl, inTT (p := 219) rfl rfl⟩), inTT (p := 61) rfl rfl, by decide, by decide, by decide +kernel, by decide +kernel, by decide⟩
set_option maxRecDepth 50000 in
theorem mo52 : mokP mi52 := ⟨inTT (p := 283) rfl rfl, (fun h => absurd h (by decide)), (fun _ => ⟨inTT (p := 281) rfl rfl, inTT (p := 282) rfl rfl⟩), inTT (p := 61) rfl rfl, by decide, by decide, by decide +kernel, by decide +kernel, by decide⟩
set_option maxRecDepth 50000 in
theorem mo53 : mokP mi53 := ⟨inTT (p := 290) rfl rfl, (fun _ => inTT (p := 289) rfl rfl), (fun h => absurd h (by decide)), inTT (p := 61) rfl rfl, by decide, by decide, by decide +kernel, by decide +kernel, by decide⟩
set_option maxRecDepth 50000 in
theorem mo54 : mokP mi54 := ⟨inTT (p := 252) rfl rfl, (fun h => absurd h (by decide)), (fun _ => ⟨inTT (p := 250) rfl rfl, inTT (p := 251) rfl rfl⟩), inTT (p := 60) rfl rfl, by decide, by decide, by decide +kernel, by decide +kernel, by decide⟩
set_option maxRecDepth 50000 in
theorem mo55 : mokP mi55 := ⟨inTT (p := 256) rfl rfl, (fun h => absurd h (by decide)), (fun _ => ⟨inTT (p := 254) rfl rfl, inTT (p := 255) rfl rfl⟩), inTT (p := 60) rfl rfl, by decide, by decide, by decide +kernel, by decide +kernel, by decide⟩
set_option maxRecDepth 50000 in
theorem mo56 : mokP mi56 := ⟨inTT (p := 263) rfl rfl, (fun h => absurd h (by decide)), (fun _ => ⟨inTT (p := 261) rfl rfl, inTT (p := 262) rfl rfl⟩), inTT (p := 60) rfl rfl, by decide, by decide, by decide +kernel, by decide +kernel, by decide⟩
set_option maxRecDepth 50000 in
theorem mo57 : mokP mi57 := ⟨inTT (p := 323) rfl rfl, (fun h => absurd h (by decide)), (fun _ => ⟨inTT (p := 321) rfl rfl, inTT (p := 322) rfl rfl⟩), inTT (p := 60) rfl rfl, by decide, by decide, by decide +kernel, by decide +kernel, by decide⟩
set_option maxRecDepth 50000 in
theorem mo58 : mokP mi58 := ⟨inTT (p := 334) rfl rfl, (fun h => absurd h (by decide)), (fun _ => ⟨inTT (p := 332) rfl rfl, inTT (p := 333) rfl rfl⟩), inTT (p := 60) rfl rfl, by decide, by decide, by decide +kernel, by decide +kernel, by decide⟩
set_option maxRecDepth 50000 in
theorem mo59 : mokP mi59 := ⟨inTT (p := 469) rfl rfl, (fun h => absurd h (by decide)), (fun _ => ⟨inTT (p := 467) rfl rfl, inTT (p := 468) rfl rfl⟩), inTT (p := 60) rfl rfl, by decide, by decide, by decide +kernel, by decide +kernel, by decide⟩
set_option maxRecDepth 50000 in
theorem mo60 : mokP mi60 := ⟨inTT (p := 473) rfl rfl, (fun h => absurd h (by decide)), (fun _ => ⟨inTT (p := 471) rfl rfl, inTT (p := 472) rfl rfl⟩), inTT (p := 60) rfl rfl, by decide, by decide, by decide +kernel, by decide +kernel, by decide⟩
set_option maxRecDepth 50000 in
theorem mo61 : mokP mi61 := ⟨inTT (p := 482) rfl rfl, (fun h => absurd h (by decide)), (fun _ => ⟨inTT (p := 480) rfl rfl, inTT (p := 481) rfl rfl⟩), inTT (p := 60) rfl rfl, by decide, by decide, by decide +kernel, by decide +kernel, by decide⟩
set_option maxRecDepth 50000 in
theorem mo62 : mokP mi62 := ⟨inTT (p := 491) rfl rfl, (fun h => absurd h (by decide)), (fun _ => ⟨inTT (p := 489) rfl rfl, inTT (p := 490) rfl rfl⟩), inTT (p := 60) rfl rfl, by decide, by decide, by decide +kernel, by decide +kernel, by decide⟩
set_option maxRecDepth 50000 in
theorem mo63 : mokP mi63 := ⟨inTT (p := 498) rfl rfl, (fun h => absurd h (by decide)), (fun _ => ⟨inTT (p := 496) rfl rfl, inTT (p := 497) rfl rfl⟩), inTT (p := 60) rfl rfl, by decide, by decide, by decide +kernel, by decide +kernel, by decide⟩
set_option maxRecDepth 50000 in
theorem mo64 : mokP mi64 := ⟨inTT (p := 514) rfl rfl, (fun h => absurd h (by decide)), (fun _ => ⟨inTT (p := 512) rfl rfl, inTT (p := 513) rfl rfl⟩), inTT (p := 60) rfl rfl, by decide, by decide, by decide +kernel, by decide +kernel, by decide⟩
set_option maxRecDepth 50000 in
theorem mo65 : mokP mi65 := ⟨inTT (p := 533) rfl rfl, (fun h => absurd h (by decide)), (fun _ => ⟨inTT (p := 531) rfl rfl, inTT (p := 532) rfl rfl⟩), inTT (p := 60) rfl rfl, by decide, by decide, by decide +kernel, by decide +kernel, by decide⟩
set_option maxRecDepth 50000 in
theorem mo66 : mokP mi66 := ⟨inTT (p := 538) rfl rfl, (fun h => absurd h (by decide)), (fun _ => ⟨inTT (p := 536) rfl rfl, inTT (p := 537) rfl rfl⟩), inTT (p := 60) rfl rfl, by decide, by decide, by decide +kernel, by decide +kernel, by decide⟩
set_option maxRecDepth 50000 in
theorem mo67 : mokP mi67 := ⟨inTT (p := 548) rfl rfl, (fun h => absurd h (by decide)), (fun _ => ⟨inTT (p := 546) rfl rfl, inTT (p := 547) rfl rfl⟩), inTT (p := 60) rfl rfl, by decide, by decide, by decide +kernel, by decide +kernel, by decide⟩
set_option maxRecDepth 50000 in
theorem mo68 : mokP mi68 := ⟨inTT (p := 553) rfl rfl, (fun h => absurd h (by decide)), (fun _ => ⟨inTT (p := 551) rfl rfl, inTT (p := 552) rfl rfl⟩), inTT (p := 60) rfl rfl, by decide, by decide, by decide +kernel, by decide +kernel, by decide⟩
set_option maxRecDepth 50000 in
theorem mo69 : mokP mi69 := ⟨inTT (p := 562) rfl rfl, (fun h => absurd h (by decide)), (fun _ => ⟨inTT (p := 560) rfl rfl, inTT (p := 561) rfl rfl⟩), inTT (p := 60) rfl rfl, by decide, by decide, by decide +kernel, by decide +kernel, by decide⟩
set_option maxRecDepth 50000 in
theorem mo70 : mokP mi70 := ⟨inTT (p := 570) rfl rfl, (fun h => absurd h (by decide)), (fun _ => ⟨inTT (p := 568) rfl rfl, inTT (p := 569) rfl rfl⟩), inTT (p := 60) rfl rfl, by decide, by decide, by decide +kernel, by decide +kernel, by decide⟩
set_option maxRecDepth 50000 in
theorem mo71 : mokP mi71 := ⟨inTT (p := 578) rfl rfl, (fun h => absurd h (by decide)), (fun _ => ⟨inTT (p := 576) rfl rfl, inTT (p := 577) rfl rfl⟩), inTT (p := 60) rfl rfl, by decide, by decide, by decide +kernel, by decide +kernel, by decide⟩
set_option maxRecDepth 50000 in
theorem mo72 : mokP mi72 := ⟨inTT (p := 592) rfl rfl, (fun h => absurd h (by decide)), (fun _ => ⟨inTT (p := 590) rfl rfl, inTT (p := 591) rfl rfl⟩), inTT (p := 60) rfl rfl, by decide, by decide, by decide +kernel, by decide +kernel, by decide⟩
set_option maxRecDepth 50000 in
theorem mo73 : mokP mi73 := ⟨inTT (p := 600) rfl rfl, (fun h => absurd h (by decide)), (fun _ => ⟨inTT (p := 598) rfl rfl, inTT (p := 599) rfl rfl⟩), inTT (p := 60) rfl rfl, by decide, by decide, by decide +kernel, by decide +kernel, by decide⟩
set_option maxRecDepth 50000 in
theorem mo74 : mokP mi74 := ⟨inTT (p := 609) rfl rfl, (fun h => absurd h (by decide)), (fun _ => ⟨inTT (p := 607) rfl rfl, inTT (p := 608) rfl rfl⟩), inTT (p := 60) rfl rfl, by decide, by decide, by decide +kernel, by decide +kernel, by decide⟩
set_option maxRecDepth 50000 in
theorem mo75 : mokP mi75 := ⟨inTT (p := 629) rfl rfl, (fun h => absurd h (by decide)), (fun _ => ⟨inTT (p := 627) rfl rfl, inTT (p := 628) rfl rfl⟩), inTT (p := 60) rfl rfl, by decide, by decide, by decide +kernel, by decide +kernel, by decide⟩
set_option maxRecDepth 50000 in
theorem mo76 : mokP mi76 := ⟨inTT (p := 633) rfl rfl, (fun h => absurd h (by decide)), (fun _ => ⟨inTT (p := 631) rfl rfl, inTT (p := 632) rfl rfl⟩), inTT (p := 60) rfl rfl, by decide, by decide, by decide +kernel, by decide +kernel, by decide⟩
set_option maxRecDepth 50000 in
theorem mo77 : mokP mi77 := ⟨inTT (p := 637) rfl rfl, (fun h => absurd h (by decide)), (fun _ => ⟨inTT (p := 635) rfl rfl, inTT (p := 636) rfl rfl⟩), inTT (p := 60) rfl rfl, by decide, by decide, by decide +kernel, by decide +kernel, by decide⟩
set_option maxRecDepth 50000 in
theorem mo78 : mokP mi78 := ⟨inTT (p := 641) rfl rfl, (fun h => absurd h (by decide)), (fun _ => ⟨inTT (p := 639) rfl rfl, inTT (p := 640) rfl rfl⟩), inTT (p := 60) rfl rfl, by decide, by decide, by decide +kernel, by decide +kernel, by decide⟩
set_option maxRecDepth 50000 in
theorem mo79 : mokP mi79 := ⟨inTT (p := 645) rfl rfl, (fun h => absurd h (by decide)), (fun _ => ⟨inTT (p := 643) rfl rfl, inTT (p := 644) rfl rfl⟩), inTT (p := 60) rfl rfl, by decide, by decide, by decide +kernel, by decide +kernel, by decide⟩
set_option maxRecDepth 50000 in
theorem mo80 : mokP mi80 := ⟨inTT (p := 649) rfl rfl, (fun h => absurd h (by decide)), (fun _ => ⟨inTT (p := 647) rfl rfl, inTT (p := 648) rfl rfl⟩), inTT (p := 60) rfl rfl, by decide, by decide, by decide +kernel, by decide +kernel, by decide⟩
set_option maxRecDepth 50000 in
theorem mo81 : mokP mi81 := ⟨inTT (p := 661) rfl rfl, (fun h => absurd h (by decide)), (fun _ => ⟨inTT (p := 659) rfl rfl, inTT (p := 660) rfl rfl⟩), inTT (p := 60) rfl rfl, by decide, by decide, by decide +kernel, by decide +kernel, by decide⟩
set_option maxRecDepth 50000 in
theorem mo82 : mokP mi82 := ⟨inTT (p := 677) rfl rfl, (fun h => absurd h (by decide)), (fun _ => ⟨inTT (p := 675) rfl rfl, inTT (p := 676) rfl rfl⟩), inTT (p := 60) rfl rfl, by decide, by decide, by decide +kernel, by decide +kernel, by decide⟩
set_option maxRecDepth 50000 in
theorem mo83 : mokP mi83 := ⟨inTT (p := 681) rfl rfl, (fun h => absurd h (by decide)), (fun _ => ⟨inTT (p := 679) rfl rfl, inTT (p := 680) rfl rfl⟩), inTT (p := 60) rfl rfl, by decide, by decide, by decide +kernel, by decide +kernel, by decide⟩
set_option maxRecDepth 50000 in
theorem mo84 : mokP mi84 := ⟨inTT (p := 685) rfl rfl, (fun h => absurd h (by decide)), (fun _ => ⟨inTT (p := 683) rfl rfl, inTT (p := 684) rfl rfl⟩), inTT (p := 60) rfl rfl, by decide, by decide, by decide +kernel, by decide +kernel, by decide⟩
set_option maxRecDepth 50000 in
theorem mo85 : mokP mi85 := ⟨inTT (p := 689) rfl rfl, (fun h => absurd h (by decide)), (fun _ => ⟨inTT (p := 687) rfl rfl, inTT (p := 688) rfl rfl⟩), inTT (p := 60) rfl rfl, by decide, by decide, by decide +kernel, by decide +kernel, by decide⟩
set_option maxRecDepth 50000 in
theorem mo86 : mokP mi86 := ⟨inTT (p := 693) rfl rfl, (fun h => absurd h (by decide)), (fun _ => ⟨inTT (p := 691) rfl rfl, inTT (p := 692) rfl rfl⟩), inTT (p := 60) rfl rfl, by decide, by decide, by decide +kernel, by decide +kernel, by decide⟩
set_option maxRecDepth 50000 in
theorem mo87 : mokP mi87 := ⟨inTT (p := 697) rfl rfl, (fun h => absurd h (by decide)), (fun _ => ⟨inTT (p := 695) rfl rfl, inTT (p := 696) rfl rfl⟩), inTT (p := 60) rfl rfl, by decide, by decide, by decide +kernel, by decide +kernel, by decide⟩
set_option maxRecDepth 50000 in
theorem mo88 : mokP mi88 := ⟨inTT (p := 712) rfl rfl, (fun h => absurd h (by decide)), (fun _ => ⟨inTT (p := 710) rfl rfl, inTT (p := 711) rfl rfl⟩), inTT (p := 60) rfl rfl, by decide, by decide, by decide +kernel, by decide +kernel, by decide⟩
set_option maxRecDepth 50000 in
theorem mo89 : mokP mi89 := ⟨inTT (p := 717) rfl rfl, (fun h => absurd h (by decide)), (fun _ => ⟨inTT (p := 715) rfl rfl, inTT (p := 716) rfl rfl⟩), inTT (p := 60) rfl rfl, by decide, by decide, by decide +kernel, by decide +kernel, by decide⟩
set_option maxRecDepth 50000 in
theorem mo90 : mokP mi90 := ⟨inTT (p := 259) rfl rfl, (fun _ => inTT (p := 258) rfl rfl), (fun h => absurd h (by decide)), inTT (p := 60) rfl rfl, by decide, by decide, by decide +kernel, by decide +kernel, by decide⟩
set_option maxRecDepth 50000 in
theorem mo91 : mokP mi91 := ⟨inTT (p := 326) rfl rfl, (fun _ => inTT (p := 325) rfl rfl), (fun h => absurd h (by decide)), inTT (p := 60) rfl rfl, by decide, by decide, by decide +kernel, by decide +kernel, by decide⟩
set_option maxRecDepth 50000 in
theorem mo92 : mokP mi92 := ⟨inTT (p := 494) rfl rfl, (fun _ => inTT (p := 493) rfl rfl), (fun h => absurd h (by decide)), inTT (p := 60) rfl rfl, by decide, by decide, by decide +kernel, by decide +kernel, by decide⟩
set_option maxRecDepth 50000 in
theorem mo93 : mokP mi93 := ⟨inTT (p := 330) rfl rfl, (fun h => absurd h (by decide)), (fun _ => ⟨inTT (p := 329) rfl rfl, inTT (p := 0) rfl rfl⟩), inTT (p := 60) rfl rfl, by decide, by decide, by decide +kernel, by decide +kernel, by decide⟩
set_option maxRecDepth 50000 in
theorem mo94 : mokP mi94 := ⟨inTT (p := 720) rfl rfl, (fun _ => inTT (p := 719) rfl rfl), (fun h => absurd h (by decide)), inTT (p := 60) rfl rfl, by decide, by decide, by decide +kernel, by decide +kernel, by decide⟩
set_option maxRecDepth 50000 in
theorem mo95 : mokP mi95 := ⟨inTT (p := 557) rfl rfl, (fun h => absurd h (by decide)), (fun _ => ⟨inTT (p := 556) rfl rfl, inTT (p := 15) rfl rfl⟩), inTT (p := 60) rfl rfl, by decide, by decide, by decide +kernel, by decide +kernel, by decide⟩
set_option maxRecDepth 50000 in
theorem mo96 : mokP mi96 := ⟨inTT (p := 566) rfl rfl, (fun h => absurd h (by decide)), (fun _ => ⟨inTT (p := 565) rfl rfl, inTT (p := 16) rfl rfl⟩), inTT (p := 60) rfl rfl, by decide, by decide, by decide +kernel, by decide +kernel, by decide⟩
set_option maxRecDepth 50000 in
theorem mo97 : mokP mi97 := ⟨inTT (p := 574) rfl rfl, (fun h => absurd h (by decide)), (fun _ => ⟨inTT (p := 573) rfl rfl, inTT (p := 17) rfl rfl⟩), inTT (p := 60) rfl rfl, by decide, by decide, by decide +kernel, by decide +kernel, by decide⟩
set_option maxRecDepth 50000 in
theorem mo98 : mokP mi98 := ⟨inTT (p := 588) rfl rfl, (fun h => absurd h (by decide)), (fun _ => ⟨inTT (p := 587) rfl rfl, inTT (p := 18) rfl rfl⟩), inTT (p := 60) rfl rfl, by decide, by decide, by decide +kernel, by decide +kernel, by decide⟩
set_option maxRecDepth 50000 in
theorem mo99 : mokP mi99 := ⟨inTT (p := 613) rfl rfl, (fun h => absurd h (by decide)), (fun _ => ⟨inTT (p := 612) rfl rfl, inTT (p := 19) rfl rfl⟩), inTT (p := 60) rfl rfl, by decide, by decide, by decide +kernel, by decide +kernel, by decide⟩
set_option maxRecDepth 50000 in
theorem mo100 : mokP mi100 := ⟨inTT (p := 621) rfl rfl, (fun h => absurd h (by decide)), (fun _ => ⟨inTT (p := 620) rfl rfl, inTT (p := 20) rfl rfl⟩), inTT (p := 60) rfl rfl, by decide, by decide, by decide +kernel, by decide +kernel, by decide⟩
set_option maxRecDepth 50000 in
theorem mo101 : mokP mi101 := ⟨inTT (p := 666) rfl rfl, (fun h => absurd h (by decide)), (fun _ => ⟨inTT (p := 665) rfl rfl, inTT (p := 21) rfl rfl⟩), inTT (p := 60) rfl rfl, by decide, by decide, by decide +kernel, by decide +kernel, by decide⟩
set_option maxRecDepth 50000 in
theorem mo102 : mokP mi102 := ⟨inTT (p := 669) rfl rfl, (fun _ => inTT (p := 668) rfl rfl), (fun h => absurd h (by decide)), inTT (p := 60) rfl rfl, by decide, by decide, by decide +kernel, by decide +kernel, by decide⟩
set_option maxRecDepth 50000 in
theorem mo103 : mokP mi103 := ⟨inTT (p := 603) rfl rfl, (fun _ => inTT (p := 602) rfl rfl), (fun h => absurd h (by decide)), inTT (p := 60) rfl rfl, by decide, by decide, by decide +kernel, by decide +kernel, by decide⟩
set_option maxRecDepth 50000 in
theorem mo104 : mokP mi104 := ⟨inTT (p := 737) rfl rfl, (fun _ => inTT (p := 736) rfl rfl), (fun h => absurd h (by decide)), inTT (p := 65) rfl rfl, by decide, by decide, by decide +kernel, by decide +kernel, by decide⟩
set_option maxRecDepth 50000 in
theorem mo105 : mokP mi105 := ⟨inTT (p := 927) rfl rfl, (fun _ => inTT (p := 926) rfl rfl), (fun h => absurd h (by decide)), inTT (p := 65) rfl rfl, by decide, by decide, by decide +kernel, by decide +kernel, by decide⟩
set_option maxRecDepth 50000 in
theorem mo106 : mokP mi106 := ⟨inTT (p := 917) rfl rfl, (fun _ => inTT (p := 916) rfl rfl), (fun h => absurd h (by decide)), inTT (p := 65) rfl rfl, by decide, by decide, by decide +kernel, by decide +kernel, by decide⟩
set_option maxRecDepth 50000 in
theorem mo107 : mokP mi107 := ⟨inTT (p := 963) rfl rfl, (fun h => absurd h (by decide)), (fun _ => ⟨inTT (p := 962) rfl rfl, inTT (p := 44) rfl rfl⟩), inTT (p := 65) rfl rfl, by decide, by decide, by decide +kernel, by decide +kernel, by decide⟩
set_option maxRecDepth 50000 in
theorem mo108 : mokP mi108 := ⟨inTT (p := 898) rfl rfl, (fun h => absurd h (by decide)), (fun _ => ⟨inTT (p := 897) rfl rfl, inTT (p := 34) rfl rfl⟩), inTT (p := 65) rfl rfl, by decide, by decide, by decide +kernel, by decide +kernel, by decide⟩
set_option maxRecDepth 50000 in
theorem mo109 : mokP mi109 := ⟨inTT (p := 894) rfl rfl, (fun h => absurd h (by decide)), (fun _ => ⟨inTT (p := 893) rfl rfl, inTT (p := 33) rfl rfl⟩), inTT (p := 65) rfl rfl, by decide, by decide, by decide +kernel, by decide +kernel, by decide⟩
set_option maxRecDepth 50000 in
theorem mo110 : mokP mi110 := ⟨inTT (p := 914) rfl rfl, (fun h => absurd h (by decide)), (fun _ => ⟨inTT (p := 913) rfl rfl, inTT (p := 38) rfl rfl⟩), inTT (p := 65) rfl rfl, by decide, by decide, by decide +kernel, by decide +kernel, by decide⟩
set_option maxRecDepth 50000 in
theorem mo111 : mokP mi111 := ⟨inTT (p := 943) rfl rfl, (fun h => absurd h (by decide)), (fun _ => ⟨inTT (p := 942) rfl rfl, inTT (p := 43) rfl rfl⟩), inTT (p := 65) rfl rfl, by decide, by decide, by decide +kernel, by decide +kernel, by decide⟩
set_option maxRecDepth 50000 in
theorem mo112 : mokP mi112 := ⟨inTT (p := 939) rfl rfl, (fun h => absurd h (by decide)), (fun _ => ⟨inTT (p := 938) rfl rfl, inTT (p := 42) rfl rfl⟩), inTT (p := 65) rfl rfl, by decide, by decide, by decide +kernel, by decide +kernel, by decide⟩
set_option maxRecDepth 50000 in
theorem mo113 : mokP mi113 := ⟨inTT (p := 874) rfl rfl, (fun h => absurd h (by decide)), (fun _ => ⟨inTT (p := 872) rfl rfl, inTT (p := 873) rfl rfl⟩), inTT (p := 65) rfl rfl, by decide, by decide, by decide +kernel, by decide +kernel, by decide⟩
set_option maxRecDepth 50000 in
theorem mo114 : mokP mi114 := ⟨inTT (p := 878) rfl rfl, (fun h => absurd h (by decide)), (fun _ => ⟨inTT (p := 876) rfl rfl, inTT (p := 877) rfl rfl⟩), inTT (p := 65) rfl rfl, by decide, by decide, by decide +kernel, by decide +kernel, by decide⟩
set_option maxRecDepth 50000 in
theorem mo115 : mokP mi115 := ⟨inTT (p := 882) rfl rfl, (fun h => absurd h (by decide)), (fun _ => ⟨inTT (p := 880) rfl rfl, inTT (p := 881) rfl rfl⟩), inTT (p := 65) rfl rfl, by decide, by decide, by decide +kernel, by decide +kernel, by decide⟩
set_option maxRecDepth 50000 in
theorem mo116 : mokP mi116 := ⟨inTT (p := 950) rfl rfl, (fun _ => inTT (p := 949) rfl rfl), (fun h => absurd h (by decide)), inTT (p := 65) rfl rfl, by decide, by decide, by decide +kernel, by decide +kernel, by decide⟩
set_option maxRecDepth 50000 in
theorem mo117 : mokP mi117 := ⟨inTT (p := 947) rfl rfl, (fun h => absurd h (by decide)), (fun _ => ⟨inTT (p := 945) rfl rfl, inTT (p := 946) rfl rfl⟩), inTT (p := 65) rfl rfl, by decide, by decide, by decide +kernel, by decide +kernel, by decide⟩
set_option maxRecDepth 50000 in
theorem mo118 : mokP mi118 := ⟨inTT (p := 741) rfl rfl, (fun h => absurd h (by decide)), (fun _ => ⟨inTT (p := 740) rfl rfl, inTT (p := 23) rfl rfl⟩), inTT (p := 65) rfl rfl, by decide, by decide, by decide +kernel, by decide +kernel, by decide⟩
set_option maxRecDepth 50000 in
theorem mo119 : mokP mi119 := ⟨inTT (p := 734) rfl rfl, (fun h => absurd h (by decide)), (fun _ => ⟨inTT (p := 733) rfl rfl, inTT (p := 22) rfl rfl⟩), inTT (p := 65) rfl rfl, by decide, by decide, by decide +kernel, by decide +kernel, by decide⟩
set_option maxRecDepth 50000 in
theorem mo120 : mokP mi120 := ⟨inTT (p := 757) rfl rfl, (fun _ => inTT (p := 756) rfl rfl), (fun h => absurd h (by decide)), inTT (p := 65) rfl rfl, by decide, by decide, by decide +kernel, by decide +kernel, by decide⟩
set_option maxRecDepth 50000 in
theorem mo121 : mokP mi121 := ⟨inTT (p := 750) rfl rfl, (fun h => absurd h (by decide)), (fun _ => ⟨inTT (p := 749) rfl rfl, inTT (p := 25) rfl rfl⟩), inTT (p := 65) rfl rfl, by decide, by decide, by decide +kernel, by decide +kernel, by decide⟩
set_option maxRecDepth 50000 in
theorem mo122 : mokP mi122 := ⟨inTT (p := 754) rfl rfl, (fun h => absurd h (by decide)), (fun _ => ⟨inTT (p := 753) rfl rfl, inTT (p := 26) rfl rfl⟩), inTT (p := 65) rfl rfl, by decide, by decide, by decide +kernel, by decide +kernel, by decide⟩
set_option maxRecDepth 50000 in
theorem mo123 : mokP mi123 := ⟨inTT (p := 765) rfl rfl, (fun h => absurd h (by decide)), (fun _ => ⟨inTT (p := 764) rfl rfl, inTT (p := 28) rfl rfl⟩), inTT (p := 65) rfl rfl, by decide, by decide, by decide +kernel, by decide +kernel, by decide⟩
set_option maxRecDepth 50000 in
theorem mo124 : mokP mi124 := ⟨inTT (p := 761) rfl rfl, (fun h => absurd h (by decide)), (fun _ => ⟨inTT (p := 760) rfl rfl, inTT (p := 27) rfl rfl⟩), inTT (p := 65) rfl rfl, by decide, by decide, by decide +kernel, by decide +kernel, by decide⟩
set_option maxRecDepth 50000 in
theorem mo125 : mokP mi125 := ⟨inTT (p := 773) rfl rfl, (fun h => absurd h (by decide)), (fun _ => ⟨inTT (p := 772) rfl rfl, inTT (p := 30) rfl rfl⟩), inTT (p := 65) rfl rfl, by decide, by decide, by decide +kernel, by decide +kernel, by decide⟩
set_option maxRecDepth 50000 in
theorem mo126 : mokP mi126 := ⟨inTT (p := 769) rfl rfl, (fun h => absurd h (by decide)), (fun _ => ⟨inTT (p := 768) rfl rfl, inTT (p := 29) rfl rfl⟩), inTT (p := 65) rfl rfl, by decide, by decide, by decide +kernel, by decide +kernel, by decide⟩
set_option maxRecDepth 50000 in
theorem mo127 : mokP mi127 := ⟨inTT (p := 745) rfl rfl, (fun h => absurd h (by decide)), (fun _ => ⟨inTT (p := 744) rfl rfl, inTT (p := 24) rfl rfl⟩), inTT (p := 65) rfl rfl, by decide, by decide, by decide +kernel, by decide +kernel, by decide⟩
set_option maxRecDepth 50000 in
theorem mo128 : mokP mi128 := ⟨inTT (p := 730) rfl rfl, (fun h => absurd h (by decide)), (fun _ => ⟨inTT (p := 728) rfl rfl, inTT (p := 729) rfl rfl⟩), inTT (p := 65) rfl rfl, by decide, by decide, by decide +kernel, by decide +kernel, by decide⟩
set_option maxRecDepth 50000 in
theorem mo129 : mokP mi129 := ⟨inTT (p := 924) rfl rfl, (fun _ => inTT (p := 923) rfl rfl), (fun h => absurd h (by decide)), inTT (p := 65) rfl rfl, by decide, by decide, by decide +kernel, by decide +kernel, by decide⟩
set_option maxRecDepth 50000 in
theorem mo130 : mokP mi130 := ⟨inTT (p := 921) rfl rfl, (fun h => absurd h (by decide)), (fun _ => ⟨inTT (p := 920) rfl rfl, inTT (p := 39) rfl rfl⟩), inTT (p := 65) rfl rfl, by decide, by decide, by decide +kernel, by decide +kernel, by decide⟩
set_option maxRecDepth 50000 in
theorem mo131 : mokP mi131 := ⟨inTT (p := 955) rfl rfl, (fun h => absurd h (by decide)), (fun _ => ⟨inTT (p := 953) rfl rfl, inTT (p := 954) rfl rfl⟩), inTT (p := 65) rfl rfl, by decide, by decide, by decide +kernel, by decide +kernel, by decide⟩
set_option maxRecDepth 50000 in
theorem mo132 : mokP mi132 := ⟨inTT (p := 910) rfl rfl, (fun h => absurd h (by decide)), (fun _ => ⟨inTT (p := 909) rfl rfl, inTT (p := 37) rfl rfl⟩), inTT (p := 65) rfl rfl, by decide, by decide, by decide +kernel, by decide +kernel, by decide⟩
set_option maxRecDepth 50000 in
theorem mo133 : mokP mi133 := ⟨inTT (p := 959) rfl rfl, (fun h => absurd h (by decide)), (fun _ => ⟨inTT (p := 957) rfl rfl, inTT (p := 958) rfl rfl⟩), inTT (p := 65) rfl rfl, by decide, by decide, by decide +kernel, by decide +kernel, by decide⟩
set_option maxRecDepth 50000 in
theorem mo134 : mokP mi134 := ⟨inTT (p := 967) rfl rfl, (fun h => absurd h (by decide)), (fun _ => ⟨inTT (p := 965) rfl rfl, inTT (p := 966) rfl rfl⟩), inTT (p := 65) rfl rfl, by decide, by decide, by decide +kernel, by decide +kernel, by decide⟩
set_option maxRecDepth 50000 in
theorem mo135 : mokP mi135 := ⟨inTT (p := 971) rfl rfl, (fun h => absurd h (by decide)), (fun _ => ⟨inTT (p := 969) rfl rfl, inTT (p := 970) rfl rfl⟩), inTT (p := 65) rfl rfl, by decide, by decide, by decide +kernel, by decide +kernel, by decide⟩
set_option maxRecDepth 50000 in
theorem mo136 : mokP mi136 := ⟨inTT (p := 906) rfl rfl, (fun h => absurd h (by decide)), (fun _ => ⟨inTT (p := 905) rfl rfl, inTT (p := 36) rfl rfl⟩), inTT (p := 65) rfl rfl, by decide, by decide, by decide +kernel, by decide +kernel, by decide⟩
set_option maxRecDepth 50000 in
theorem mo137 : mokP mi137 := ⟨inTT (p := 931) rfl rfl, (fun h => absurd h (by decide)), (fun _ => ⟨inTT (p := 930) rfl rfl, inTT (p := 40) rfl rfl⟩), inTT (p := 65) rfl rfl, by decide, by decide, by decide +kernel, by decide +kernel, by decide⟩
set_option maxRecDepth 50000 in
theorem mo138 : mokP mi138 := ⟨inTT (p := 979) rfl rfl, (fun h => absurd h (by decide)), (fun _ => ⟨inTT (p := 978) rfl rfl, inTT (p := 45) rfl rfl⟩), inTT (p := 65) rfl rfl, by decide, by decide, by decide +kernel, by decide +kernel, by decide⟩
set_option maxRecDepth 50000 in
theorem mo139 : mokP mi139 := ⟨inTT (p := 902) rfl rfl, (fun h => absurd h (by decide)), (fun _ => ⟨inTT (p := 901) rfl rfl, inTT (p := 35) rfl rfl⟩), inTT (p := 65) rfl rfl, by decide, by decide, by decide +kernel, by decide +kernel, by decide⟩
set_option maxRecDepth 50000 in
theorem mo140 : mokP mi140 := ⟨inTT (p := 890) rfl rfl, (fun h => absurd h (by decide)), (fun _ => ⟨inTT (p := 889) rfl rfl, inTT (p := 32) rfl rfl⟩), inTT (p := 65) rfl rfl, by decide, by decide, by decide +kernel, by decide +kernel, by decide⟩
set_option maxRecDepth 50000 in
theorem mo141 : mokP mi141 := ⟨inTT (p := 935) rfl rfl, (fun h => absurd h (by decide)), (fun _ => ⟨inTT (p := 934) rfl rfl, inTT (p := 41) rfl rfl⟩), inTT (p := 65) rfl rfl, by decide, by decide, by decide +kernel, by decide +kernel, by decide⟩
set_option maxRecDepth 50000 in
theorem mo142 : mokP mi142 := ⟨inTT (p := 886) rfl rfl, (fun h => absurd h (by decide)), (fun _ => ⟨inTT (p := 885) rfl rfl, inTT (p := 31) rfl rfl⟩), inTT (p := 65) rfl rfl, by decide, by decide, by decide +kernel, by decide +kernel, by decide⟩
set_option maxRecDepth 50000 in
theorem mo143 : mokP mi143 := ⟨inTT (p := 975) rfl rfl, (fun h => absurd h (by decide)), (fun _ => ⟨inTT (p := 973) rfl rfl, inTT (p := 974) rfl rfl⟩), inTT (p := 65) rfl rfl, by decide, by decide, by decide +kernel, by decide +kernel, by decide⟩
set_option maxRecDepth 50000 in
theorem mo144 : mokP mi144 := ⟨inTT (p := 991) rfl rfl, (fun h => absurd h (by decide)), (fun _ => ⟨inTT (p := 990) rfl rfl, inTT (p := 47) rfl rfl⟩), inTT (p := 65) rfl rfl, by decide, by decide, by decide +kernel, by decide +kernel, by decide⟩
set_option maxRecDepth 50000 in
theorem mo145 : mokP mi145 := ⟨inTT (p := 987) rfl rfl, (fun h => absurd h (by decide)), (fun _ => ⟨inTT (p := 986) rfl rfl, inTT (p := 46) rfl rfl⟩), inTT (p := 65) rfl rfl, by decide, by decide, by decide +kernel, by decide +kernel, by decide⟩
set_option maxRecDepth 50000 in
theorem mo146 : mokP mi146 := ⟨inTT (p := 983) rfl rfl, (fun h => absurd h (by decide)), (fun _ => ⟨inTT (p := 981) rfl rfl, inTT (p := 982) rfl rfl⟩), inTT (p := 65) rfl rfl, by decide, by decide, by decide +kernel, by decide +kernel, by decide⟩
set_option maxRecDepth 50000 in
theorem mo147 : mokP mi147 := ⟨inTT (p := 995) rfl rfl, (fun h => absurd h (by decide)), (fun _ => ⟨inTT (p := 993) rfl rfl, inTT (p := 994) rfl rfl⟩), inTT (p := 65) rfl rfl, by decide, by decide, by decide +kernel, by decide +kernel, by decide⟩
set_option maxRecDepth 50000 in
theorem mo148 : mokP mi148 := ⟨inTT (p := 1003) rfl rfl, (fun h => absurd h (by decide)), (fun _ => ⟨inTT (p := 1002) rfl rfl, inTT (p := 48) rfl rfl⟩), inTT (p := 65) rfl rfl, by decide, by decide, by decide +kernel, by decide +kernel, by decide⟩
set_option maxRecDepth 50000 in
theorem mo149 : mokP mi149 := ⟨inTT (p := 1011) rfl rfl, (fun h => absurd h (by decide)), (fun _ => ⟨inTT (p := 1010) rfl rfl, inTT (p := 50) rfl rfl⟩), inTT (p := 65) rfl rfl, by decide, by decide, by decide +kernel, by decide +kernel, by decide⟩
set_option maxRecDepth 50000 in
theorem mo150 : mokP mi150 := ⟨inTT (p := 1007) rfl rfl, (fun h => absurd h (by decide)), (fun _ => ⟨inTT (p := 1006) rfl rfl, inTT (p := 49) rfl rfl⟩), inTT (p := 65) rfl rfl, by decide, by decide, by decide +kernel, by decide +kernel, by decide⟩
set_option maxRecDepth 50000 in
theorem mo151 : mokP mi151 := ⟨inTT (p := 999) rfl rfl, (fun h => absurd h (by decide)), (fun _ => ⟨inTT (p := 997) rfl rfl, inTT (p := 998) rfl rfl⟩), inTT (p := 65) rfl rfl, by decide, by decide, by decide +kernel, by decide +kernel, by decide⟩
set_option maxRecDepth 50000 in
theorem mo152 : mokP mi152 := ⟨inTT (p := 1023) rfl rfl, (fun h => absurd h (by decide)), (fun _ => ⟨inTT (p := 1022) rfl rfl, inTT (p := 52) rfl rfl⟩), inTT (p := 65) rfl rfl, by decide, by decide, by decide +kernel, by decide +kernel, by decide⟩
set_option maxRecDepth 50000 in
theorem mo153 : mokP mi153 := ⟨inTT (p := 1019) rfl rfl, (fun h => absurd h (by decide)), (fun _ => ⟨inTT (p := 1018) rfl rfl, inTT (p := 51) rfl rfl⟩), inTT (p := 65) rfl rfl, by decide, by decide, by decide +kernel, by decide +kernel, by decide⟩
set_option maxRecDepth 50000 in
theorem mo154 : mokP mi154 := ⟨inTT (p := 1015) rfl rfl, (fun h => absurd h (by decide)), (fun _ => ⟨inTT (p := 1013) rfl rfl, inTT (p := 1014) rfl rfl⟩), inTT (p := 65) rfl rfl, by decide, by decide, by decide +kernel, by decide +kernel, by decide⟩
set_option maxRecDepth 50000 in
theorem mo155 : mokP mi155 := ⟨inTT (p := 1031) rfl rfl, (fun h => absurd h (by decide)), (fun _ => ⟨inTT (p := 1030) rfl rfl, inTT (p := 53) rfl rfl⟩), inTT (p := 65) rfl rfl, by decide, by decide, by decide +kernel, by decide +kernel, by decide⟩
set_option maxRecDepth 50000 in
theorem mo156 : mokP mi156 := ⟨inTT (p := 1027) rfl rfl, (fun h => absurd h (by decide)), (fun _ => ⟨inTT (p := 1025) rfl rfl, inTT (p := 1026) rfl rfl⟩), inTT (p := 65) rfl rfl, by decide, by decide, by decide +kernel, by decide +kernel, by decide⟩
set_option maxRecDepth 50000 in
theorem mo157 : mokP mi157 := ⟨inTT (p := 1035) rfl rfl, (fun h => absurd h (by decide)), (fun _ => ⟨inTT (p := 1033) rfl rfl, inTT (p := 1034) rfl rfl⟩), inTT (p := 65) rfl rfl, by decide, by decide, by decide +kernel, by decide +kernel, by decide⟩
set_option maxRecDepth 50000 in
theorem mo158 : mokP mi158 := ⟨inTT (p := 1039) rfl rfl, (fun h => absurd h (by decide)), (fun _ => ⟨inTT (p := 1037) rfl rfl, inTT (p := 1038) rfl rfl⟩), inTT (p := 65) rfl rfl, by decide, by decide, by decide +kernel, by decide +kernel, by decide⟩
set_option maxRecDepth 50000 in
theorem mo159 : mokP mi159 := ⟨inTT (p := 1047) rfl rfl, (fun h => absurd h (by decide)), (fun _ => ⟨inTT (p := 1046) rfl rfl, inTT (p := 54) rfl rfl⟩), inTT (p := 65) rfl rfl, by decide, by decide, by decide +kernel, by decide +kernel, by decide⟩
set_option maxRecDepth 50000 in
theorem mo160 : mokP mi160 := ⟨inTT (p := 1043) rfl rfl, (fun h => absurd h (by decide)), (fun _ => ⟨inTT (p := 1041) rfl rfl, inTT (p := 1042) rfl rfl⟩), inTT (p := 65) rfl rfl, by decide, by decide, by decide +kernel, by decide +kernel, by decide⟩
set_option maxRecDepth 50000 in
theorem mo161 : mokP mi161 := ⟨inTT (p := 1055) rfl rfl, (fun h => absurd h (by decide)), (fun _ => ⟨inTT (p := 1054) rfl rfl, inTT (p := 55) rfl rfl⟩), inTT (p := 65) rfl rfl, by decide, by decide, by decide +kernel, by decide +kernel, by decide⟩
set_option maxRecDepth 50000 in
theorem mo162 : mokP mi162 := ⟨inTT (p := 1051) rfl rfl, (fun h => absurd h (by decide)), (fun _ => ⟨inTT (p := 1049) rfl rfl, inTT (p := 1050) rfl rfl⟩), inTT (p := 65) rfl rfl, by decide, by decide, by decide +kernel, by decide +kernel, by decide⟩
set_option maxRecDepth 50000 in
theorem mo163 : mokP mi163 := ⟨inTT (p := 1062) rfl rfl, (fun _ => inTT (p := 1061) rfl rfl), (fun h => absurd h (by decide)), inTT (p := 65) rfl rfl, by decide, by decide, by decide +kernel, by decide +kernel, by decide⟩
set_option maxRecDepth 50000 in
theorem mo164 : mokP mi164 := ⟨inTT (p := 1059) rfl rfl, (fun h => absurd h (by decide)), (fun _ => ⟨inTT (p := 1057) rfl rfl, inTT (p := 1058) rfl rfl⟩), inTT (p := 65) rfl rfl, by decide, by decide, by decide +kernel, by decide +kernel, by decide⟩
set_option maxRecDepth 50000 in
theorem mo165 : mokP mi165 := ⟨inTT (p := 1071) rfl rfl, (fun h => absurd h (by decide)), (fun _ => ⟨inTT (p := 1070) rfl rfl, inTT (p := 56) rfl rfl⟩), inTT (p := 65) rfl rfl, by decide, by decide, by decide +kernel, by decide +kernel, by decide⟩
set_option maxRecDepth 50000 in
theorem mo166 : mokP mi166 := ⟨inTT (p := 1075) rfl rfl, (fun h => absurd h (by decide)), (fun _ => ⟨inTT (p := 1074) rfl rfl, inTT (p := 57) rfl rfl⟩), inTT (p := 65) rfl rfl, by decide, by decide, by decide +kernel, by decide +kernel, by decide⟩
set_option maxRecDepth 50000 in
theorem mo167 : mokP mi167 := ⟨inTT (p := 1067) rfl rfl, (fun h => absurd h (by decide)), (fun _ => ⟨inTT (p := 1065) rfl rfl, inTT (p := 1066) rfl rfl⟩), inTT (p := 65) rfl rfl, by decide, by decide, by decide +kernel, by decide +kernel, by decide⟩
set_option maxRecDepth 50000 in
theorem mo168 : mokP mi168 := ⟨inTT (p := 1079) rfl rfl, (fun h => absurd h (by decide)), (fun _ => ⟨inTT (p := 1077) rfl rfl, inTT (p := 1078) rfl rfl⟩), inTT (p := 65) rfl rfl, by decide, by decide, by decide +kernel, by decide +kernel, by decide⟩
set_option maxRecDepth 50000 in
theorem mo169 : mokP mi169 := ⟨inTT (p := 1083) rfl rfl, (fun h => absurd h (by decide)), (fun _ => ⟨inTT (p := 1081) rfl rfl, inTT (p := 1082) rfl rfl⟩), inTT (p := 65) rfl rfl, by decide, by decide, by decide +kernel, by decide +kernel, by decide⟩
set_option maxRecDepth 50000 in
theorem mo170 : mokP mi170 := ⟨inTT (p := 1087) rfl rfl, (fun h => absurd h (by decide)), (fun _ => ⟨inTT (p := 1085) rfl rfl, inTT (p := 1086) rfl rfl⟩), inTT (p := 65) rfl rfl, by decide, by decide, by decide +kernel, by decide +kernel, by decide⟩
set_option maxRecDepth 50000 in
theorem mo171 : mokP mi171 := ⟨inTT (p := 1091) rfl rfl, (fun h => absurd h (by decide)), (fun _ => ⟨inTT (p := 1089) rfl rfl, inTT (p := 1090) rfl rfl⟩), inTT (p := 65) rfl rfl, by decide, by decide, by decide +kernel, by decide +kernel, by decide⟩
set_option maxRecDepth 50000 in
theorem mo172 : mokP mi172 := ⟨inTT (p := 1095) rfl rfl, (fun h => absurd h (by decide)), (fun _ => ⟨inTT (p := 1093) rfl rfl, inTT (p := 1094) rfl rfl⟩), inTT (p := 65) rfl rfl, by decide, by decide, by decide +kernel, by decide +kernel, by decide⟩
set_option maxRecDepth 50000 in
theorem mo173 : mokP mi173 := ⟨inTT (p := 1099) rfl rfl, (fun h => absurd h (by decide)), (fun _ => ⟨inTT (p := 1097) rfl rfl, inTT (p := 1098) rfl rfl⟩), inTT (p := 65) rfl rfl, by decide, by decide, by decide +kernel, by decide +kernel, by decide⟩
set_option maxRecDepth 50000 in
theorem mo174 : mokP mi174 := ⟨inTT (p := 1108) rfl rfl, (fun h => absurd h (by decide)), (fun _ => ⟨inTT (p := 1107) rfl rfl, inTT (p := 58) rfl rfl⟩), inTT (p := 65) rfl rfl, by decide, by decide, by decide +kernel, by decide +kernel, by decide⟩
set_option maxRecDepth 50000 in
theorem mo175 : mokP mi175 := ⟨inTT (p := 1103) rfl rfl, (fun h => absurd h (by decide)), (fun _ => ⟨inTT (p := 1101) rfl rfl, inTT (p := 1102) rfl rfl⟩), inTT (p := 65) rfl rfl, by decide, by decide, by decide +kernel, by decide +kernel, by decide⟩
set_option maxRecDepth 50000 in
theorem mo176 : mokP mi176 := ⟨inTT (p := 1116) rfl rfl, (fun h => absurd h (by decide)), (fun _ => ⟨inTT (p := 1114) rfl rfl, inTT (p := 1115) rfl rfl⟩), inTT (p := 65) rfl rfl, by decide, by decide, by decide +kernel, by decide +kernel, by decide⟩
set_option maxRecDepth 50000 in
theorem mo177 : mokP mi177 := ⟨inTT (p := 1120) rfl rfl, (fun h => absurd h (by decide)), (fun _ => ⟨inTT (p := 1118) rfl rfl, inTT (p := 1119) rfl rfl⟩), inTT (p := 65) rfl rfl, by decide, by decide, by decide +kernel, by decide +kernel, by decide⟩
set_option maxRecDepth 50000 in
theorem mo178 : mokP mi178 := ⟨inTT (p := 1124) rfl rfl, (fun h => absurd h (by decide)), (fun _ => ⟨inTT (p := 1122) rfl rfl, inTT (p := 1123) rfl rfl⟩), inTT (p := 65) rfl rfl, by decide, by decide, by decide +kernel, by decide +kernel, by decide⟩
set_option maxRecDepth 50000 in
theorem mo179 : mokP mi179 := ⟨inTT (p := 1128) rfl rfl, (fun h => absurd h (by decide)), (fun _ => ⟨inTT (p := 1126) rfl rfl, inTT (p := 1127) rfl rfl⟩), inTT (p := 65) rfl rfl, by decide, by decide, by decide +kernel, by decide +kernel, by decide⟩
set_option maxRecDepth 50000 in
theorem mo180 : mokP mi180 := ⟨inTT (p := 1132) rfl rfl, (fun h => absurd h (by decide)), (fun _ => ⟨inTT (p := 1130) rfl rfl, inTT (p := 1131) rfl rfl⟩), inTT (p := 65) rfl rfl, by decide, by decide, by decide +kernel, by decide +kernel, by decide⟩
set_option maxRecDepth 50000 in
theorem mo181 : mokP mi181 := ⟨inTT (p := 1136) rfl rfl, (fun h => absurd h (by decide)), (fun _ => ⟨inTT (p := 1134) rfl rfl, inTT (p := 1135) rfl rfl⟩), inTT (p := 65) rfl rfl, by decide, by decide, by decide +kernel, by decide +kernel, by decide⟩
set_option maxRecDepth 50000 in
theorem mo182 : mokP mi182 := ⟨inTT (p := 1140) rfl rfl, (fun h => absurd h (by decide)), (fun _ => ⟨inTT (p := 1138) rfl rfl, inTT (p := 1139) rfl rfl⟩), inTT (p := 65) rfl rfl, by decide, by decide, by decide +kernel, by decide +kernel, by decide⟩
set_option maxRecDepth 50000 in
theorem mo183 : mokP mi183 := ⟨inTT (p := 1148) rfl rfl, (fun _ => inTT (p := 1147) rfl rfl), (fun h => absurd h (by decide)), inTT (p := 65) rfl rfl, by decide, by decide, by decide +kernel, by decide +kernel, by decide⟩
set_option maxRecDepth 50000 in
theorem mo184 : mokP mi184 := ⟨inTT (p := 1145) rfl rfl, (fun h => absurd h (by decide)), (fun _ => ⟨inTT (p := 1143) rfl rfl, inTT (p := 1144) rfl rfl⟩), inTT (p := 65) rfl rfl, by decide, by decide, by decide +kernel, by decide +kernel, by decide⟩
def mokY (y : Nat) : Prop := ∀ t, mi? y = some t → mokP t
theorem mp0 : ∀ y, y < 1 → mokY y := lt_s lt_0 (fun t h => by cases h; exact mo0)
theorem mp1 : ∀ y, y < 2 → mokY y := lt_s mp0 (fun t h => by cases h; exact mo1)
theorem mp2 : ∀ y, y < 3 → mokY y := lt_s mp1 (fun t h => by cases h; exact mo2)
theorem mp3 : ∀ y, y < 4 → mokY y := lt_s mp2 (fun t h => by cases h; exact mo3)
theorem mp4 : ∀ y, y < 5 → mokY y := lt_s mp3 (fun t h => by cases h; exact mo4)
theorem mp5 : ∀ y, y < 6 → mokY y := lt_s mp4 (fun t h => by cases h; exact mo5)
theorem mp6 : ∀ y, y < 7 → mokY y := lt_s mp5 (fun t h => by cases h; exact mo6)
theorem mp7 : ∀ y, y < 8 → mokY y := lt_s mp6 (fun t h => by cases h; exact mo7)
theorem mp8 : ∀ y, y < 9 → mokY y := lt_s mp7 (fun t h => by cases h; exact mo8)
theorem mp9 : ∀ y, y < 10 → mokY y := lt_s mp8 (fun t h => by cases h; exact mo9)
theorem mp10 : ∀ y, y < 11 → mokY y := lt_s mp9 (fun t h => by cases h; exact mo10)
theorem mp11 : ∀ y, y < 12 → mokY y := lt_s mp10 (fun t h => by cases h; exact mo11)
theorem mp12 : ∀ y, y < 13 → mokY y := lt_s mp11 (fun t h => by cases h; exact mo12)
theorem mp13 : ∀ y, y < 14 → mokY y := lt_s mp12 (fun t h => by cases h; exact mo13)
theorem mp14 : ∀ y, y < 15 → mokY y := lt_s mp13 (fun t h => by cases h; exact mo14)
theorem mp15 : ∀ y, y < 16 → mokY y := lt_s mp14 (fun t h => by cases h; exact mo15)
theorem mp16 : ∀ y, y < 17 → mokY y := lt_s mp15 (fun t h => by cases h; exact mo16)
theorem mp17 : ∀ y, y < 18 → mokY y := lt_s mp16 (fun t h => by cases h; exact mo17)
theorem mp18 : ∀ y, y < 19 → mokY y := lt_s mp17 (fun t h => by cases h; exact mo18)
theorem mp19 : ∀ y, y < 20 → mokY y := lt_s mp18 (fun t h => by cases h; exact mo19)
theorem mp20 : ∀ y, y < 21 → mokY y := lt_s mp19 (fun t h => by cases h; exact mo20)
theorem mp21 : ∀ y, y < 22 → mokY y := lt_s mp20 (fun t h => by cases h; exact mo21)
theorem mp22 : ∀ y, y < 23 → mokY y := lt_s mp21 (fun t h => by cases h; exact mo22)
theorem mp23 : ∀ y, y < 24 → mokY y := lt_s mp22 (fun t h => by cases h; exact mo23)
theorem mp24 : ∀ y, y < 25 → mokY y := lt_s mp23 (fun t h => by cases h; exact mo24)
theorem mp25 : ∀ y, y < 26 → mokY y := lt_s mp24 (fun t h => by cases h; exact mo25)
theorem mp26 : ∀ y, y < 27 → mokY y := lt_s mp25 (fun t h => by cases h; exact mo26)
theorem mp27 : ∀ y, y < 28 → mokY y := lt_s mp26 (fun t h => by cases h; exact mo27)
theorem mp28 : ∀ y, y < 29 → mokY y := lt_s mp27 (fun t h => by cases h; exact mo28)
theorem mp29 : ∀ y, y < 30 → mokY y := lt_s mp28 (fun t h => by cases h; exact mo29)
theorem mp30 : ∀ y, y < 31 → mokY y := lt_s mp29 (fun t h => by cases h; exact mo30)
theorem mp31 : ∀ y, y < 32 → mokY y := lt_s mp30 (fun t h => by cases h; exact mo31)
theorem mp32 : ∀ y, y < 33 → mokY y := lt_s mp31 (fun t h => by cases h; exact mo32)
theorem mp33 : ∀ y, y < 34 → mokY y := lt_s mp32 (fun t h => by cases h; exact mo33)
theorem mp34 : ∀ y, y < 35 → mokY y := lt_s mp33 (fun t h => by cases h; exact mo34)
theorem mp35 : ∀ y, y < 36 → mokY y := lt_s mp34 (fun t h => by cases h; exact mo35)
theorem mp36 : ∀ y, y < 37 → mokY y := lt_s mp35 (fun t h => by cases h; exact mo36)
theorem mp37 : ∀ y, y < 38 → mokY y := lt_s mp36 (fun t h => by cases h; exact mo37)
theorem mp38 : ∀ y, y < 39 → mokY y := lt_s mp37 (fun t h => by cases h; exact mo38)
theorem mp39 : ∀ y, y < 40 → mokY y := lt_s mp38 (fun t h => by cases h; exact mo39)
theorem mp40 : ∀ y, y < 41 → mokY y := lt_s mp39 (fun t h => by cases h; exact mo40)
theorem mp41 : ∀ y, y < 42 → mokY y := lt_s mp40 (fun t h => by cases h; exact mo41)
theorem mp42 : ∀ y, y < 43 → mokY y := lt_s mp41 (fun t h => by cases h; exact mo42)
theorem mp43 : ∀ y, y < 44 → mokY y := lt_s mp42 (fun t h => by cases h; exact mo43)
theorem mp44 : ∀ y, y < 45 → mokY y := lt_s mp43 (fun t h => by cases h; exact mo44)
theorem mp45 : ∀ y, y < 46 → mokY y := lt_s mp44 (fun t h => by cases h; exact mo45)
theorem mp46 : ∀ y, y < 47 → mokY y := lt_s mp45 (fun t h => by cases h; exact mo46)
theorem mp47 : ∀ y, y < 48 → mokY y := lt_s mp46 (fun t h => by cases h; exact mo47)
theorem mp48 : ∀ y, y < 49 → mokY y := lt_s mp47 (fun t h => by cases h; exact mo48)
theorem mp49 : ∀ y, y < 50 → mokY y := lt_s mp48 (fun t h => by cases h; exact mo49)
theorem mp50 : ∀ y, y < 51 → mokY y := lt_s mp49 (fun t h => by cases h; exact mo50)
theorem mp51 : ∀ y, y < 52 → mokY y := lt_s mp50 (fun t h => by cases h; exact mo51)
theorem mp52 : ∀ y, y < 53 → mokY y := lt_s mp51 (fun t h => by cases h; exact mo52)
theorem mp53 : ∀ y, y < 54 → mokY y := lt_s mp52 (fun t h => by cases h; exact mo53)
theorem mp54 : ∀ y, y < 55 → mokY y := lt_s mp53 (fun t h => by cases h; exact mo54)
theorem mp55 : ∀ y, y < 56 → mokY y := lt_s mp54 (fun t h => by cases h; exact mo55)
theorem mp56 : ∀ y, y < 57 → mokY y := lt_s mp55 (fun t h => by cases h; exact mo56)
theorem mp57 : ∀ y, y < 58 → mokY y := lt_s mp56 (fun t h => by cases h; exact mo57)
theorem mp58 : ∀ y, y < 59 → mokY y := lt_s mp57 (fun t h => by cases h; exact mo58)
theorem mp59 : ∀ y, y < 60 → mokY y := lt_s mp58 (fun t h => by cases h; exact mo59)
theorem mp60 : ∀ y, y < 61 → mokY y := lt_s mp59 (fun t h => by cases h; exact mo60)
theorem mp61 : ∀ y, y < 62 → mokY y := lt_s mp60 (fun t h => by cases h; exact mo61)
theorem mp62 : ∀ y, y < 63 → mokY y := lt_s mp61 (fun t h => by cases h; exact mo62)
theorem mp63 : ∀ y, y < 64 → mokY y := lt_s mp62 (fun t h => by cases h; exact mo63)
theorem mp64 : ∀ y, y < 65 → mokY y := lt_s mp63 (fun t h => by cases h; exact mo64)
theorem mp65 : ∀ y, y < 66 → mokY y := lt_s mp64 (fun t h => by cases h; exact mo65)
theorem mp66 : ∀ y, y < 67 → mokY y := lt_s mp65 (fun t h => by cases h; exact mo66)
theorem mp67 : ∀ y, y < 68 → mokY y := lt_s mp66 (fun t h => by cases h; exact mo67)
theorem mp68 : ∀ y, y < 69 → mokY y := lt_s mp67 (fun t h => by cases h; exact mo68)
theorem mp69 : ∀ y, y < 70 → mokY y := lt_s mp68 (fun t h => by cases h; exact mo69)
theorem mp70 : ∀ y, y < 71 → mokY y := lt_s mp69 (fun t h => by cases h; exact mo70)
theorem mp71 : ∀ y, y < 72 → mokY y := lt_s mp70 (fun t h => by cases h; exact mo71)
theorem mp72 : ∀ y, y < 73 → mokY y := lt_s mp71 (fun t h => by cases h; exact mo72)
theorem mp73 : ∀ y, y < 74 → mokY y := lt_s mp72 (fun t h => by cases h; exact mo73)
theorem mp74 : ∀ y, y < 75 → mokY y := lt_s mp73 (fun t h => by cases h; exact mo74)
theorem mp75 : ∀ y, y < 76 → mokY y := lt_s mp74 (fun t h => by cases h; exact mo75)
theorem mp76 : ∀ y, y < 77 → mokY y := lt_s mp75 (fun t h => by cases h; exact mo76)
theorem mp77 : ∀ y, y < 78 → mokY y := lt_s mp76 (fun t h => by cases h; exact mo77)
theorem mp78 : ∀ y, y < 79 → mokY y := lt_s mp77 (fun t h => by cases h; exact mo78)
theorem mp79 : ∀ y, y < 80 → mokY y := lt_s mp78 (fun t h => by cases h; exact mo79)
theorem mp80 : ∀ y, y < 81 → mokY y := lt_s mp79 (fun t h => by cases h; exact mo80)
theorem mp81 : ∀ y, y < 82 → mokY y := lt_s mp80 (fun t h => by cases h; exact mo81)
theorem mp82 : ∀ y, y < 83 → mokY y := lt_s mp81 (fun t h => by cases h; exact mo82)
theorem mp83 : ∀ y, y < 84 → mokY y := lt_s mp82 (fun t h => by cases h; exact mo83)
theorem mp84 : ∀ y, y < 85 → mokY y := lt_s mp83 (fun t h => by cases h; exact mo84)
theorem mp85 : ∀ y, y < 86 → mokY y := lt_s mp84 (fun t h => by cases h; exact mo85)
theorem mp86 : ∀ y, y < 87 → mokY y := lt_s mp85 (fun t h => by cases h; exact mo86)
theorem mp87 : ∀ y, y < 88 → mokY y := lt_s mp86 (fun t h => by cases h; exact mo87)
theorem mp88 : ∀ y, y < 89 → mokY y := lt_s mp87 (fun t h => by cases h; exact mo88)
theorem mp89 : ∀ y, y < 90 → mokY y := lt_s mp88 (fun t h => by cases h; exact mo89)
theorem mp90 : ∀ y, y < 91 → mokY y := lt_s mp89 (fun t h => by cases h; exact mo90)
theorem mp91 : ∀ y, y < 92 → mokY y := lt_s mp90 (fun t h => by cases h; exact mo91)
theorem mp92 : ∀ y, y < 93 → mokY y := lt_s mp91 (fun t h => by cases h; exact mo92)
theorem mp93 : ∀ y, y < 94 → mokY y := lt_s mp92 (fun t h => by cases h; exact mo93)
theorem mp94 : ∀ y, y < 95 → mokY y := lt_s mp93 (fun t h => by cases h; exact mo94)
theorem mp95 : ∀ y, y < 96 → mokY y := lt_s mp94 (fun t h => by cases h; exact mo95)
theorem mp96 : ∀ y, y < 97 → mokY y := lt_s mp95 (fun t h => by cases h; exact mo96)
theorem mp97 : ∀ y, y < 98 → mokY y := lt_s mp96 (fun t h => by cases h; exact mo97)
theorem mp98 : ∀ y, y < 99 → mokY y := lt_s mp97 (fun t h => by cases h; exact mo98)
theorem mp99 : ∀ y, y < 100 → mokY y := lt_s mp98 (fun t h => by cases h; exact mo99)
theorem mp100 : ∀ y, y < 101 → mokY y := lt_s mp99 (fun t h => by cases h; exact mo100)
theorem mp101 : ∀ y, y < 102 → mokY y := lt_s mp100 (fun t h => by cases h; exact mo101)
theorem mp102 : ∀ y, y < 103 → mokY y := lt_s mp101 (fun t h => by cases h; exact mo102)
theorem mp103 : ∀ y, y < 104 → mokY y := lt_s mp102 (fun t h => by cases h; exact mo103)
theorem mp104 : ∀ y, y < 105 → mokY y := lt_s mp103 (fun t h => by cases h; exact mo104)
theorem mp105 : ∀ y, y < 106 → mokY y := lt_s mp104 (fun t h => by cases h; exact mo105)
theorem mp106 : ∀ y, y < 107 → mokY y := lt_s mp105 (fun t h => by cases h; exact mo106)
theorem mp107 : ∀ y, y < 108 → mokY y := lt_s mp106 (fun t h => by cases h; exact mo107)
theorem mp108 : ∀ y, y < 109 → mokY y := lt_s mp107 (fun t h => by cases h; exact mo108)
theorem mp109 : ∀ y, y < 110 → mokY y := lt_s mp108 (fun t h => by cases h; exact mo109)
theorem mp110 : ∀ y, y < 111 → mokY y := lt_s mp109 (fun t h => by cases h; exact mo110)
theorem mp111 : ∀ y, y < 112 → mokY y := lt_s mp110 (fun t h => by cases h; exact mo111)
theorem mp112 : ∀ y, y < 113 → mokY y := lt_s mp111 (fun t h => by cases h; exact mo112)
theorem mp113 : ∀ y, y < 114 → mokY y := lt_s mp112 (fun t h => by cases h; exact mo113)
theorem mp114 : ∀ y, y < 115 → mokY y := lt_s mp113 (fun t h => by cases h; exact mo114)
theorem mp115 : ∀ y, y < 116 → mokY y := lt_s mp114 (fun t h => by cases h; exact mo115)
theorem mp116 : ∀ y, y < 117 → mokY y := lt_s mp115 (fun t h => by cases h; exact mo116)
theorem mp117 : ∀ y, y < 118 → mokY y := lt_s mp116 (fun t h => by cases h; exact mo117)
theorem mp118 : ∀ y, y < 119 → mokY y := lt_s mp117 (fun t h => by cases h; exact mo118)
theorem mp119 : ∀ y, y < 120 → mokY y := lt_s mp118 (fun t h => by cases h; exact mo119)
theorem mp120 : ∀ y, y < 121 → mokY y := lt_s mp119 (fun t h => by cases h; exact mo120)
theorem mp121 : ∀ y, y < 122 → mokY y := lt_s mp120 (fun t h => by cases h; exact mo121)
theorem mp122 : ∀ y, y < 123 → mokY y := lt_s mp121 (fun t h => by cases h; exact mo122)
theorem mp123 : ∀ y, y < 124 → mokY y := lt_s mp122 (fun t h => by cases h; exact mo123)
theorem mp124 : ∀ y, y < 125 → mokY y := lt_s mp123 (fun t h => by cases h; exact mo124)
theorem mp125 : ∀ y, y < 126 → mokY y := lt_s mp124 (fun t h => by cases h; exact mo125)
theorem mp126 : ∀ y, y < 127 → mokY y := lt_s mp125 (fun t h => by cases h; exact mo126)
theorem mp127 : ∀ y, y < 128 → mokY y := lt_s mp126 (fun t h => by cases h; exact mo127)
theorem mp128 : ∀ y, y < 129 → mokY y := lt_s mp127 (fun t h => by cases h; exact mo128)
theorem mp129 : ∀ y, y < 130 → mokY y := lt_s mp128 (fun t h => by cases h; exact mo129)
theorem mp130 : ∀ y, y < 131 → mokY y := lt_s mp129 (fun t h => by cases h; exact mo130)
theorem mp131 : ∀ y, y < 132 → mokY y := lt_s mp130 (fun t h => by cases h; exact mo131)
theorem mp132 : ∀ y, y < 133 → mokY y := lt_s mp131 (fun t h => by cases h; exact mo132)
theorem mp133 : ∀ y, y < 134 → mokY y := lt_s mp132 (fun t h => by cases h; exact mo133)
theorem mp134 : ∀ y, y < 135 → mokY y := lt_s mp133 (fun t h => by cases h; exact mo134)
theorem mp135 : ∀ y, y < 136 → mokY y := lt_s mp134 (fun t h => by cases h; exact mo135)
theorem mp136 : ∀ y, y < 137 → mokY y := lt_s mp135 (fun t h => by cases h; exact mo136)
theorem mp137 : ∀ y, y < 138 → mokY y := lt_s mp136 (fun t h => by cases h; exact mo137)
theorem mp138 : ∀ y, y < 139 → mokY y := lt_s mp137 (fun t h => by cases h; exact mo138)
theorem mp139 : ∀ y, y < 140 → mokY y := lt_s mp138 (fun t h => by cases h; exact mo139)
theorem mp140 : ∀ y, y < 141 → mokY y := lt_s mp139 (fun t h => by cases h; exact mo140)
theorem mp141 : ∀ y, y < 142 → mokY y := lt_s mp140 (fun t h => by cases h; exact mo141)
theorem mp142 : ∀ y, y < 143 → mokY y := lt_s mp141 (fun t h => by cases h; exact mo142)
theorem mp143 : ∀ y, y < 144 → mokY y := lt_s mp142 (fun t h => by cases h; exact mo143)
theorem mp144 : ∀ y, y < 145 → mokY y := lt_s mp143 (fun t h => by cases h; exact mo144)
theorem mp145 : ∀ y, y < 146 → mokY y := lt_s mp144 (fun t h => by cases h; exact mo145)
theorem mp146 : ∀ y, y < 147 → mokY y := lt_s mp145 (fun t h => by cases h; exact mo146)
theorem mp147 : ∀ y, y < 148 → mokY y := lt_s mp146 (fun t h => by cases h; exact mo147)
theorem mp148 : ∀ y, y < 149 → mokY y := lt_s mp147 (fun t h => by cases h; exact mo148)
theorem mp149 : ∀ y, y < 150 → mokY y := lt_s mp148 (fun t h => by cases h; exact mo149)
theorem mp150 : ∀ y, y < 151 → mokY y := lt_s mp149 (fun t h => by cases h; exact mo150)
theorem mp151 : ∀ y, y < 152 → mokY y := lt_s mp150 (fun t h => by cases h; exact mo151)
theorem mp152 : ∀ y, y < 153 → mokY y := lt_s mp151 (fun t h => by cases h; exact mo152)
theorem mp153 : ∀ y, y < 154 → mokY y := lt_s mp152 (fun t h => by cases h; exact mo153)
theorem mp154 : ∀ y, y < 155 → mokY y := lt_s mp153 (fun t h => by cases h; exact mo154)
theorem mp155 : ∀ y, y < 156 → mokY y := lt_s mp154 (fun t h => by cases h; exact mo155)
theorem mp156 : ∀ y, y < 157 → mokY y := lt_s mp155 (fun t h => by cases h; exact mo156)
theorem mp157 : ∀ y, y < 158 → mokY y := lt_s mp156 (fun t h => by cases h; exact mo157)
theorem mp158 : ∀ y, y < 159 → mokY y := lt_s mp157 (fun t h => by cases h; exact mo158)
theorem mp159 : ∀ y, y < 160 → mokY y := lt_s mp158 (fun t h => by cases h; exact mo159)
theorem mp160 : ∀ y, y < 161 → mokY y := lt_s mp159 (fun t h => by cases h; exact mo160)
theorem mp161 : ∀ y, y < 162 → mokY y := lt_s mp160 (fun t h => by cases h; exact mo161)
theorem mp162 : ∀ y, y < 163 → mokY y := lt_s mp161 (fun t h => by cases h; exact mo162)
theorem mp163 : ∀ y, y < 164 → mokY y := lt_s mp162 (fun t h => by cases h; exact mo163)
theorem mp164 : ∀ y, y < 165 → mokY y := lt_s mp163 (fun t h => by cases h; exact mo164)
theorem mp165 : ∀ y, y < 166 → mokY y := lt_s mp164 (fun t h => by cases h; exact mo165)
theorem mp166 : ∀ y, y < 167 → mokY y := lt_s mp165 (fun t h => by cases h; exact mo166)
theorem mp167 : ∀ y, y < 168 → mokY y := lt_s mp166 (fun t h => by cases h; exact mo167)
theorem mp168 : ∀ y, y < 169 → mokY y := lt_s mp167 (fun t h => by cases h; exact mo168)
theorem mp169 : ∀ y, y < 170 → mokY y := lt_s mp168 (fun t h => by cases h; exact mo169)
theorem mp170 : ∀ y, y < 171 → mokY y := lt_s mp169 (fun t h => by cases h; exact mo170)
theorem mp171 : ∀ y, y < 172 → mokY y := lt_s mp170 (fun t h => by cases h; exact mo171)
theorem mp172 : ∀ y, y < 173 → mokY y := lt_s mp171 (fun t h => by cases h; exact mo172)
theorem mp173 : ∀ y, y < 174 → mokY y := lt_s mp172 (fun t h => by cases h; exact mo173)
theorem mp174 : ∀ y, y < 175 → mokY y := lt_s mp173 (fun t h => by cases h; exact mo174)
theorem mp175 : ∀ y, y < 176 → mokY y := lt_s mp174 (fun t h => by cases h; exact mo175)
theorem mp176 : ∀ y, y < 177 → mokY y := lt_s mp175 (fun t h => by cases h; exact mo176)
theorem mp177 : ∀ y, y < 178 → mokY y := lt_s mp176 (fun t h => by cases h; exact mo177)
theorem mp178 : ∀ y, y < 179 → mokY y := lt_s mp177 (fun t h => by cases h; exact mo178)
theorem mp179 : ∀ y, y < 180 → mokY y := lt_s mp178 (fun t h => by cases h; exact mo179)
theorem mp180 : ∀ y, y < 181 → mokY y := lt_s mp179 (fun t h => by cases h; exact mo180)
theorem mp181 : ∀ y, y < 182 → mokY y := lt_s mp180 (fun t h => by cases h; exact mo181)
theorem mp182 : ∀ y, y < 183 → mokY y := lt_s mp181 (fun t h => by cases h; exact mo182)
theorem mp183 : ∀ y, y < 184 → mokY y := lt_s mp182 (fun t h => by cases h; exact mo183)
theorem mp184 : ∀ y, y < 185 → mokY y := lt_s mp183 (fun t h => by cases h; exact mo184)
theorem mok_all (y : Nat) (t : MI) (ht : mi? y = some t) (hy : y ≠ kLaw) : mokP t := by
  rcases Nat.lt_or_ge y 185 with h | h
  · exact mp184 y h t ht
  · have h2 : 186 ≤ y := by
      have h3 : y ≠ 185 := hy
      omega
    rw [mi_hi h2] at ht
    cases ht
set_option maxRecDepth 50000 in
theorem checked : Checked := ⟨cls_all, mok_all, chk_all, qo_all, rk_all, inTT (p := 708) rfl rfl, inTT (p := 707) rfl rfl, inTT (p := 72) rfl rfl, inTT (p := 66) rfl rfl, ⟨inTT (p := 298) rfl rfl, inTT (p := 299) rfl rfl⟩, ⟨inTT (p := 295) rfl rfl, inTT (p := 296) rfl rfl⟩, ⟨inTT (p := 292) rfl rfl, inTT (p := 293) rfl rfl⟩⟩
