theorem inX0 : ∀ w ∈ u_ws RX0 TX0 3, GW w := by
  have h : u_ws RX0 TX0 3 = [Jvm.Cond.laysFinal "FatLean$Books" "FatLean$Books" "years" "[I", Jvm.Cond.laysFinal "FatLean$Books" "FatLean$Books" "stores" "[I", Jvm.Cond.lays "FatLean$Books" "FatLean$Books" "known" "I"] := by decide +kernel
  rw [h]
  exact List.forall_mem_cons.mpr ⟨gw_254, List.forall_mem_cons.mpr ⟨gw_256, List.forall_mem_cons.mpr ⟨gw_258, fun _ h => absurd h List.not_mem_nil⟩⟩⟩
theorem inX1 : ∀ w ∈ u_ws RX1 TX1 4, GW w := by
  have h : u_ws RX1 TX1 4 = [Jvm.Cond.laysFinal "FatLean$Counsel" "FatLean$Counsel" "sums" "[[I", Jvm.Cond.laysFinal "FatLean$Counsel" "FatLean$Counsel" "choices" "[I", Jvm.Cond.lays "FatLean$Counsel" "FatLean$Counsel" "court" "LFatLean$Court;", Jvm.Cond.lays "FatLean$Counsel" "FatLean$Counsel" "years" "I"] := by decide +kernel
  rw [h]
  exact List.forall_mem_cons.mpr ⟨gw_235, List.forall_mem_cons.mpr ⟨gw_237, List.forall_mem_cons.mpr ⟨gw_239, List.forall_mem_cons.mpr ⟨gw_241, fun _ h => absurd h List.not_mem_nil⟩⟩⟩⟩
theorem inX2 : ∀ w ∈ u_ws RX2 TX2 19, GW w := by
  have h : u_ws RX2 TX2 19 = [Jvm.Cond.laysFinal "FatLean$Court" "FatLean$Court" "fatYields" "[I", Jvm.Cond.laysFinal "FatLean$Court" "FatLean$Court" "leanYields" "[I", Jvm.Cond.laysFinal "FatLean$Court" "FatLean$Court" "rows" "[I", Jvm.Cond.laysFinal "FatLean$Court" "FatLean$Court" "odds" "[I", Jvm.Cond.lays "FatLean$Court" "FatLean$Court" "lands" "I", Jvm.Cond.lays "FatLean$Court" "FatLean$Court" "readings" "I", Jvm.Cond.lays "FatLean$Court" "FatLean$Court" "need" "I", Jvm.Cond.lays "FatLean$Court" "FatLean$Court" "hunger" "I", Jvm.Cond.lays "FatLean$Court" "FatLean$Court" "cap" "I", Jvm.Cond.lays "FatLean$Court" "FatLean$Court" "rot" "I", Jvm.Cond.lays "FatLean$Court" "FatLean$Court" "store" "I", Jvm.Cond.lays "FatLean$Court" "FatLean$Court" "fatPrice" "I", Jvm.Cond.lays "FatLean$Court" "FatLean$Court" "leanPrice" "I", Jvm.Cond.lays "FatLean$Court" "FatLean$Court" "kind" "I", Jvm.Cond.lays "FatLean$Court" "FatLean$Court" "v" "I", Jvm.Cond.lays "FatLean$Court" "FatLean$Court" "year" "I", Jvm.Cond.lays "FatLean$Court" "FatLean$Court" "past" "I", Jvm.Cond.lays "FatLean$Court" "FatLean$Court" "money" "I", Jvm.Cond.lays "FatLean$Court" "FatLean$Court" "starved" "I"] := by decide +kernel
  rw [h]
  exact List.forall_mem_cons.mpr ⟨gw_184, List.forall_mem_cons.mpr ⟨gw_186, List.forall_mem_cons.mpr ⟨gw_188, List.forall_mem_cons.mpr ⟨gw_190, List.forall_mem_cons.mpr ⟨gw_192, List.forall_mem_cons.mpr ⟨gw_194, List.forall_mem_cons.mpr ⟨gw_196, List.forall_mem_cons.mpr ⟨gw_198, List.forall_mem_cons.mpr ⟨gw_200, List.forall_mem_cons.mpr ⟨gw_202, List.forall_mem_cons.mpr ⟨gw_204, List.forall_mem_cons.mpr ⟨gw_206, List.forall_mem_cons.mpr ⟨gw_208, List.forall_mem_cons.mpr ⟨gw_210, List.forall_mem_cons.mpr ⟨gw_212, List.forall_mem_cons.mpr ⟨gw_214, List.forall_mem_cons.mpr ⟨gw_216, List.forall_mem_cons.mpr ⟨gw_218, List.forall_mem_cons.mpr ⟨gw_220, fun _ h => absurd h List.not_mem_nil⟩⟩⟩⟩⟩⟩⟩⟩⟩⟩⟩⟩⟩⟩⟩⟩⟩⟩⟩
theorem inX3 : ∀ w ∈ u_ws RX3 TX3 10, GW w := by
  have h : u_ws RX3 TX3 10 = [Jvm.Cond.laysFinal "FatLean$Scribe" "FatLean$Scribe" "tape" "[I", Jvm.Cond.lays "FatLean$Scribe" "FatLean$Scribe" "length" "I", Jvm.Cond.lays "FatLean$Scribe" "FatLean$Scribe" "fault" "I", Jvm.Cond.lays "FatLean$Scribe" "FatLean$Scribe" "place" "I", Jvm.Cond.lays "FatLean$Scribe" "FatLean$Scribe" "told" "LFatLean$Court;", Jvm.Cond.lays "FatLean$Scribe" "FatLean$Scribe" "once" "I", Jvm.Cond.lays "FatLean$Scribe" "FatLean$Scribe" "token" "I", Jvm.Cond.lays "FatLean$Scribe" "FatLean$Scribe" "start" "I", Jvm.Cond.lays "FatLean$Scribe" "FatLean$Scribe" "next" "I", Jvm.Cond.lays "FatLean$Scribe" "FatLean$Scribe" "number" "I"] := by decide +kernel
  rw [h]
  exact List.forall_mem_cons.mpr ⟨gw_100, List.forall_mem_cons.mpr ⟨gw_102, List.forall_mem_cons.mpr ⟨gw_104, List.forall_mem_cons.mpr ⟨gw_106, List.forall_mem_cons.mpr ⟨gw_108, List.forall_mem_cons.mpr ⟨gw_110, List.forall_mem_cons.mpr ⟨gw_112, List.forall_mem_cons.mpr ⟨gw_114, List.forall_mem_cons.mpr ⟨gw_116, List.forall_mem_cons.mpr ⟨gw_118, fun _ h => absurd h List.not_mem_nil⟩⟩⟩⟩⟩⟩⟩⟩⟩⟩
theorem inX4 : ∀ w ∈ u_ws RX4 TX4 3, GW w := by
  have h : u_ws RX4 TX4 3 = [Jvm.Cond.laysFinal "FatLean$Sheet" "FatLean$Sheet" "cells" "[I", Jvm.Cond.lays "FatLean$Sheet" "FatLean$Sheet" "size" "I", Jvm.Cond.lays "FatLean$Sheet" "FatLean$Sheet" "lane" "I"] := by decide +kernel
  rw [h]
  exact List.forall_mem_cons.mpr ⟨gw_274, List.forall_mem_cons.mpr ⟨gw_276, List.forall_mem_cons.mpr ⟨gw_278, fun _ h => absurd h List.not_mem_nil⟩⟩⟩
theorem inX5 : ∀ w ∈ u_ws RX5 TX5 9, GW w := by
  have h : u_ws RX5 TX5 9 = [Jvm.Cond.laysFinal "FatLean" "FatLean" "scribe" "LFatLean$Scribe;", Jvm.Cond.laysFinal "FatLean" "FatLean" "court" "LFatLean$Court;", Jvm.Cond.laysFinal "FatLean" "FatLean" "trial" "LFatLean$Court;", Jvm.Cond.laysFinal "FatLean" "FatLean" "counsel" "LFatLean$Counsel;", Jvm.Cond.laysFinal "FatLean" "FatLean" "books" "LFatLean$Books;", Jvm.Cond.laysFinal "FatLean" "FatLean" "images" "[LFatLean$Court;", Jvm.Cond.laysFinal "FatLean" "FatLean" "imaged" "[Z", Jvm.Cond.laysFinal "FatLean" "FatLean" "sheets" "[LFatLean$Sheet;", Jvm.Cond.lays "FatLean" "FatLean" "tornFault" "I"] := by decide +kernel
  rw [h]
  exact List.forall_mem_cons.mpr ⟨gw_291, List.forall_mem_cons.mpr ⟨gw_293, List.forall_mem_cons.mpr ⟨gw_295, List.forall_mem_cons.mpr ⟨gw_297, List.forall_mem_cons.mpr ⟨gw_299, List.forall_mem_cons.mpr ⟨gw_301, List.forall_mem_cons.mpr ⟨gw_303, List.forall_mem_cons.mpr ⟨gw_305, List.forall_mem_cons.mpr ⟨gw_307, fun _ h => absurd h List.not_mem_nil⟩⟩⟩⟩⟩⟩⟩⟩⟩
theorem inX6 : ∀ w ∈ u_ws RX6 TX6 28, GW w := by
  have h : u_ws RX6 TX6 28 = [Jvm.Cond.laysFinal "FatLeanModel" "FatLeanModel" "state" "[I", Jvm.Cond.lays "FatLeanModel" "FatLeanModel" "landMany" "I", Jvm.Cond.laysFinal "FatLeanModel" "FatLeanModel" "readings" "[I", Jvm.Cond.lays "FatLeanModel" "FatLeanModel" "readingMany" "I", Jvm.Cond.laysFinal "FatLeanModel" "FatLeanModel" "readPage" "[I", Jvm.Cond.laysFinal "FatLeanModel" "FatLeanModel" "readRows" "[I", Jvm.Cond.lays "FatLeanModel" "FatLeanModel" "readLands" "I", Jvm.Cond.lays "FatLeanModel" "FatLeanModel" "readMany" "I", Jvm.Cond.lays "FatLeanModel" "FatLeanModel" "toldOnce" "I", Jvm.Cond.laysFinal "FatLeanModel" "FatLeanModel" "tape" "[I", Jvm.Cond.lays "FatLeanModel" "FatLeanModel" "taped" "I", Jvm.Cond.lays "FatLeanModel" "FatLeanModel" "fault" "I", Jvm.Cond.lays "FatLeanModel" "FatLeanModel" "broken" "I", Jvm.Cond.lays "FatLeanModel" "FatLeanModel" "brokenAt" "I", Jvm.Cond.lays "FatLeanModel" "FatLeanModel" "spot" "I", Jvm.Cond.lays "FatLeanModel" "FatLeanModel" "here" "I", Jvm.Cond.lays "FatLeanModel" "FatLeanModel" "token" "I", Jvm.Cond.lays "FatLeanModel" "FatLeanModel" "value" "I", Jvm.Cond.laysFinal "FatLeanModel" "FatLeanModel" "cuts" "[I", Jvm.Cond.laysFinal "FatLeanModel" "FatLeanModel" "letters" "[I", Jvm.Cond.laysFinal "FatLeanModel" "FatLeanModel" "worths" "[J", Jvm.Cond.laysFinal "FatLeanModel" "FatLeanModel" "seen" "[I", Jvm.Cond.lays "FatLeanModel" "FatLeanModel" "seenMany" "I", Jvm.Cond.laysFinal "FatLeanModel" "FatLeanModel" "isKept" "[Z", Jvm.Cond.laysFinal "FatLeanModel" "FatLeanModel" "lanes" "[I", Jvm.Cond.laysFinal "FatLeanModel" "FatLeanModel" "lengths" "[I", Jvm.Cond.laysFinal "FatLeanModel" "FatLeanModel" "cells" "[I", Jvm.Cond.lays "FatLeanModel" "FatLeanModel" "torn" "I"] := by decide +kernel
  rw [h]
  exact List.forall_mem_cons.mpr ⟨gw_903, List.forall_mem_cons.mpr ⟨gw_905, List.forall_mem_cons.mpr ⟨gw_907, List.forall_mem_cons.mpr ⟨gw_909, List.forall_mem_cons.mpr ⟨gw_911, List.forall_mem_cons.mpr ⟨gw_913, List.forall_mem_cons.mpr ⟨gw_915, List.forall_mem_cons.mpr ⟨gw_917, List.forall_mem_cons.mpr ⟨gw_919, List.forall_mem_cons.mpr ⟨gw_921, List.forall_mem_cons.mpr ⟨gw_923, List.forall_mem_cons.mpr ⟨gw_925, List.forall_mem_cons.mpr ⟨gw_927, List.forall_mem_cons.mpr ⟨gw_929, List.forall_mem_cons.mpr ⟨gw_931, List.forall_mem_cons.mpr ⟨gw_933, List.forall_mem_cons.mpr ⟨gw_935, List.forall_mem_cons.mpr ⟨gw_937, List.forall_mem_cons.mpr ⟨gw_939, List.forall_mem_cons.mpr ⟨gw_941, List.forall_mem_cons.mpr ⟨gw_943, List.forall_mem_cons.mpr ⟨gw_945, List.forall_mem_cons.mpr ⟨gw_947, List.forall_mem_cons.mpr ⟨gw_949, List.forall_mem_cons.mpr ⟨gw_951, List.forall_mem_cons.mpr ⟨gw_953, List.forall_mem_cons.mpr ⟨gw_955, List.forall_mem_cons.mpr ⟨gw_957, fun _ h => absurd h List.not_mem_nil⟩⟩⟩⟩⟩⟩⟩⟩⟩⟩⟩⟩⟩⟩⟩⟩⟩⟩⟩⟩⟩⟩⟩⟩⟩⟩⟩⟩
theorem nw_0 : nwl[0] ∈ nwl := List.getElem_mem _
theorem nw_1 : nwl[1] ∈ nwl := List.getElem_mem _
theorem nw_2 : nwl[2] ∈ nwl := List.getElem_mem _
theorem nw_3 : nwl[3] ∈ nwl := List.getElem_mem _
theorem nw_4 : nwl[4] ∈ nwl := List.getElem_mem _
theorem nw_5 : nwl[5] ∈ nwl := List.getElem_mem _
theorem nw_6 : nwl[6] ∈ nwl := List.getElem_mem _
theorem nw_7 : nwl[7] ∈ nwl := List.getElem_mem _
theorem nw_8 : nwl[8] ∈ nwl := List.getElem_mem _
theorem nw_9 : nwl[9] ∈ nwl := List.getElem_mem _
theorem nw_10 : nwl[10] ∈ nwl := List.getElem_mem _
theorem gw_acn : GW (.native arraycopyName) := gw_489
theorem gw_acs : GW (.static arraycopyName) := gw_488
theorem gw_aci : GW (.initialized "java/lang/System") := gw_69
theorem wr_m4 : wr (-4) = (-4) := by decide
theorem wl_m4 : wl (-4) = (-4) := by decide
theorem wr_0 : wr 0 = 0 := by decide
theorem wl_0 : wl 0 = 0 := by decide
theorem wr_1 : wr 1 = 1 := by decide
theorem wl_1 : wl 1 = 1 := by decide
theorem wr_2 : wr 2 = 2 := by decide
theorem wl_2 : wl 2 = 2 := by decide
theorem wr_3 : wr 3 = 3 := by decide
theorem wl_3 : wl 3 = 3 := by decide
theorem wr_4 : wr 4 = 4 := by decide
theorem wl_4 : wl 4 = 4 := by decide
theorem wr_5 : wr 5 = 5 := by decide
theorem wl_5 : wl 5 = 5 := by decide
theorem wr_6 : wr 6 = 6 := by decide
theorem wl_6 : wl 6 = 6 := by decide
theorem wr_8 : wr 8 = 8 := by decide
theorem wl_8 : wl 8 = 8 := by decide
theorem wr_9 : wr 9 = 9 := by decide
theorem wl_9 : wl 9 = 9 := by decide
theorem wr_10 : wr 10 = 10 := by decide
theorem wl_10 : wl 10 = 10 := by decide
theorem wr_11 : wr 11 = 11 := by decide
theorem wl_11 : wl 11 = 11 := by decide
theorem wr_12 : wr 12 = 12 := by decide
theorem wl_12 : wl 12 = 12 := by decide
theorem wr_13 : wr 13 = 13 := by decide
theorem wl_13 : wl 13 = 13 := by decide
theorem wr_14 : wr 14 = 14 := by decide
theorem wl_14 : wl 14 = 14 := by decide
theorem wr_15 : wr 15 = 15 := by decide
theorem wl_15 : wl 15 = 15 := by decide
theorem wr_16 : wr 16 = 16 := by decide
theorem wl_16 : wl 16 = 16 := by decide
theorem wr_17 : wr 17 = 17 := by decide
theorem wl_17 : wl 17 = 17 := by decide
theorem wr_18 : wr 18 = 18 := by decide
theorem wl_18 : wl 18 = 18 := by decide
theorem wr_19 : wr 19 = 19 := by decide
theorem wl_19 : wl 19 = 19 := by decide
theorem wr_20 : wr 20 = 20 := by decide
theorem wl_20 : wl 20 = 20 := by decide
theorem wr_21 : wr 21 = 21 := by decide
theorem wl_21 : wl 21 = 21 := by decide
theorem wr_22 : wr 22 = 22 := by decide
theorem wl_22 : wl 22 = 22 := by decide
theorem wr_23 : wr 23 = 23 := by decide
theorem wl_23 : wl 23 = 23 := by decide
theorem wr_24 : wr 24 = 24 := by decide
theorem wl_24 : wl 24 = 24 := by decide
theorem wr_25 : wr 25 = 25 := by decide
theorem wl_25 : wl 25 = 25 := by decide
theorem wr_32 : wr 32 = 32 := by decide
theorem wl_32 : wl 32 = 32 := by decide
theorem wr_40 : wr 40 = 40 := by decide
theorem wl_40 : wl 40 = 40 := by decide
theorem wr_48 : wr 48 = 48 := by decide
theorem wl_48 : wl 48 = 48 := by decide
theorem wr_50 : wr 50 = 50 := by decide
theorem wl_50 : wl 50 = 50 := by decide
theorem wr_57 : wr 57 = 57 := by decide
theorem wl_57 : wl 57 = 57 := by decide
theorem wr_59 : wr 59 = 59 := by decide
theorem wl_59 : wl 59 = 59 := by decide
theorem wr_64 : wr 64 = 64 := by decide
theorem wl_64 : wl 64 = 64 := by decide
theorem wr_89 : wr 89 = 89 := by decide
theorem wl_89 : wl 89 = 89 := by decide
theorem wr_91 : wr 91 = 91 := by decide
theorem wl_91 : wl 91 = 91 := by decide
theorem wr_94 : wr 94 = 94 := by decide
theorem wl_94 : wl 94 = 94 := by decide
theorem wr_95 : wr 95 = 95 := by decide
theorem wl_95 : wl 95 = 95 := by decide
theorem wr_97 : wr 97 = 97 := by decide
theorem wl_97 : wl 97 = 97 := by decide
theorem wr_102 : wr 102 = 102 := by decide
theorem wl_102 : wl 102 = 102 := by decide
theorem wr_108 : wr 108 = 108 := by decide
theorem wl_108 : wl 108 = 108 := by decide
theorem wr_116 : wr 116 = 116 := by decide
theorem wl_116 : wl 116 = 116 := by decide
theorem wr_119 : wr 119 = 119 := by decide
theorem wl_119 : wl 119 = 119 := by decide
theorem wr_120 : wr 120 = 120 := by decide
theorem wl_120 : wl 120 = 120 := by decide
theorem wr_121 : wr 121 = 121 := by decide
theorem wl_121 : wl 121 = 121 := by decide
theorem wr_122 : wr 122 = 122 := by decide
theorem wl_122 : wl 122 = 122 := by decide
theorem wr_123 : wr 123 = 123 := by decide
theorem wl_123 : wl 123 = 123 := by decide
theorem wr_124 : wr 124 = 124 := by decide
theorem wl_124 : wl 124 = 124 := by decide
theorem wr_160 : wr 160 = 160 := by decide
theorem wl_160 : wl 160 = 160 := by decide
