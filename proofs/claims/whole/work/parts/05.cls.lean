theorem cl_0 : mzCl 0 RZ0 TZ0 4 yZ0 := by
  refine ⟨rfl, ?_, by decide +kernel, by decide +kernel, rfl, by decide +kernel⟩
  intro w hw
  have hw : w ∈ [u_lay RZ0 TZ0 0, u_lay RZ0 TZ0 1, u_lay RZ0 TZ0 2, u_lay RZ0 TZ0 3] := hw
  rcases List.mem_cons.mp hw with rfl | hw
  · exact mz_t2 (List.mem_of_getElem? (i := 102) (by decide +kernel)) (by decide +kernel)
  rcases List.mem_cons.mp hw with rfl | hw
  · exact mz_t2 (List.mem_of_getElem? (i := 104) (by decide +kernel)) (by decide +kernel)
  rcases List.mem_cons.mp hw with rfl | hw
  · exact mz_t2 (List.mem_of_getElem? (i := 106) (by decide +kernel)) (by decide +kernel)
  rcases List.mem_cons.mp hw with rfl | hw
  · exact mz_t2 (List.mem_of_getElem? (i := 108) (by decide +kernel)) (by decide +kernel)
  · cases hw
theorem cl_1 : mzCl 1 RZ1 TZ1 2 yZ1 := by
  refine ⟨rfl, ?_, by decide +kernel, by decide +kernel, rfl, by decide +kernel⟩
  intro w hw
  have hw : w ∈ [u_lay RZ1 TZ1 0, u_lay RZ1 TZ1 1] := hw
  rcases List.mem_cons.mp hw with rfl | hw
  · exact mz_t1 (List.mem_of_getElem? (i := 111) (by decide +kernel)) (by decide +kernel)
  rcases List.mem_cons.mp hw with rfl | hw
  · exact mz_t1 (List.mem_of_getElem? (i := 113) (by decide +kernel)) (by decide +kernel)
  · cases hw
theorem cl_2 : mzCl 2 RZ2 TZ2 7 yZ2 := by
  refine ⟨rfl, ?_, by decide +kernel, by decide +kernel, rfl, by decide +kernel⟩
  intro w hw
  have hw : w ∈ [u_lay RZ2 TZ2 0, u_lay RZ2 TZ2 1, u_lay RZ2 TZ2 2, u_lay RZ2 TZ2 3, u_lay RZ2 TZ2 4, u_lay RZ2 TZ2 5, u_lay RZ2 TZ2 6] := hw
  rcases List.mem_cons.mp hw with rfl | hw
  · exact mz_t1 (List.mem_of_getElem? (i := 90) (by decide +kernel)) (by decide +kernel)
  rcases List.mem_cons.mp hw with rfl | hw
  · exact mz_t1 (List.mem_of_getElem? (i := 92) (by decide +kernel)) (by decide +kernel)
  rcases List.mem_cons.mp hw with rfl | hw
  · exact mz_t1 (List.mem_of_getElem? (i := 94) (by decide +kernel)) (by decide +kernel)
  rcases List.mem_cons.mp hw with rfl | hw
  · exact mz_t1 (List.mem_of_getElem? (i := 96) (by decide +kernel)) (by decide +kernel)
  rcases List.mem_cons.mp hw with rfl | hw
  · exact mz_t1 (List.mem_of_getElem? (i := 98) (by decide +kernel)) (by decide +kernel)
  rcases List.mem_cons.mp hw with rfl | hw
  · exact mz_t1 (List.mem_of_getElem? (i := 100) (by decide +kernel)) (by decide +kernel)
  rcases List.mem_cons.mp hw with rfl | hw
  · exact mz_t1 (List.mem_of_getElem? (i := 102) (by decide +kernel)) (by decide +kernel)
  · cases hw
theorem cl_3 : mzCl 3 RZ3 TZ3 2 yZ3 := by
  refine ⟨rfl, ?_, by decide +kernel, by decide +kernel, rfl, by decide +kernel⟩
  intro w hw
  have hw : w ∈ [u_lay RZ3 TZ3 0, u_lay RZ3 TZ3 1] := hw
  rcases List.mem_cons.mp hw with rfl | hw
  · exact mz_t1 (List.mem_of_getElem? (i := 59) (by decide +kernel)) (by decide +kernel)
  rcases List.mem_cons.mp hw with rfl | hw
  · exact mz_t1 (List.mem_of_getElem? (i := 61) (by decide +kernel)) (by decide +kernel)
  · cases hw
theorem cl_4 : mzCl 4 RZ4 TZ4 17 yZ4 := by
  refine ⟨rfl, ?_, by decide +kernel, by decide +kernel, rfl, by decide +kernel⟩
  intro w hw
  have hw : w ∈ [u_lay RZ4 TZ4 0, u_lay RZ4 TZ4 1, u_lay RZ4 TZ4 2, u_lay RZ4 TZ4 3, u_lay RZ4 TZ4 4, u_lay RZ4 TZ4 5, u_lay RZ4 TZ4 6, u_lay RZ4 TZ4 7, u_lay RZ4 TZ4 8, u_lay RZ4 TZ4 9, u_lay RZ4 TZ4 10, u_lay RZ4 TZ4 11, u_lay RZ4 TZ4 12, u_lay RZ4 TZ4 13, u_lay RZ4 TZ4 14, u_lay RZ4 TZ4 15, u_lay RZ4 TZ4 16] := hw
  rcases List.mem_cons.mp hw with rfl | hw
  · exact mz_t2 (List.mem_of_getElem? (i := 22) (by decide +kernel)) (by decide +kernel)
  rcases List.mem_cons.mp hw with rfl | hw
  · exact mz_t2 (List.mem_of_getElem? (i := 24) (by decide +kernel)) (by decide +kernel)
  rcases List.mem_cons.mp hw with rfl | hw
  · exact mz_t2 (List.mem_of_getElem? (i := 26) (by decide +kernel)) (by decide +kernel)
  rcases List.mem_cons.mp hw with rfl | hw
  · exact mz_t2 (List.mem_of_getElem? (i := 28) (by decide +kernel)) (by decide +kernel)
  rcases List.mem_cons.mp hw with rfl | hw
  · exact mz_t2 (List.mem_of_getElem? (i := 30) (by decide +kernel)) (by decide +kernel)
  rcases List.mem_cons.mp hw with rfl | hw
  · exact mz_t2 (List.mem_of_getElem? (i := 32) (by decide +kernel)) (by decide +kernel)
  rcases List.mem_cons.mp hw with rfl | hw
  · exact mz_t2 (List.mem_of_getElem? (i := 34) (by decide +kernel)) (by decide +kernel)
  rcases List.mem_cons.mp hw with rfl | hw
  · exact mz_t2 (List.mem_of_getElem? (i := 36) (by decide +kernel)) (by decide +kernel)
  rcases List.mem_cons.mp hw with rfl | hw
  · exact mz_t2 (List.mem_of_getElem? (i := 38) (by decide +kernel)) (by decide +kernel)
  rcases List.mem_cons.mp hw with rfl | hw
  · exact mz_t2 (List.mem_of_getElem? (i := 40) (by decide +kernel)) (by decide +kernel)
  rcases List.mem_cons.mp hw with rfl | hw
  · exact mz_t2 (List.mem_of_getElem? (i := 42) (by decide +kernel)) (by decide +kernel)
  rcases List.mem_cons.mp hw with rfl | hw
  · exact mz_t2 (List.mem_of_getElem? (i := 44) (by decide +kernel)) (by decide +kernel)
  rcases List.mem_cons.mp hw with rfl | hw
  · exact mz_t2 (List.mem_of_getElem? (i := 46) (by decide +kernel)) (by decide +kernel)
  rcases List.mem_cons.mp hw with rfl | hw
  · exact mz_t2 (List.mem_of_getElem? (i := 48) (by decide +kernel)) (by decide +kernel)
  rcases List.mem_cons.mp hw with rfl | hw
  · exact mz_t2 (List.mem_of_getElem? (i := 50) (by decide +kernel)) (by decide +kernel)
  rcases List.mem_cons.mp hw with rfl | hw
  · exact mz_t2 (List.mem_of_getElem? (i := 52) (by decide +kernel)) (by decide +kernel)
  rcases List.mem_cons.mp hw with rfl | hw
  · exact mz_t2 (List.mem_of_getElem? (i := 54) (by decide +kernel)) (by decide +kernel)
  · cases hw
theorem cl_5 : mzCl 5 RZ5 TZ5 5 yZ5 := by
  refine ⟨rfl, ?_, by decide +kernel, by decide +kernel, rfl, by decide +kernel⟩
  intro w hw
  have hw : w ∈ [u_lay RZ5 TZ5 0, u_lay RZ5 TZ5 1, u_lay RZ5 TZ5 2, u_lay RZ5 TZ5 3, u_lay RZ5 TZ5 4] := hw
  rcases List.mem_cons.mp hw with rfl | hw
  · exact mz_t1 (List.mem_of_getElem? (i := 135) (by decide +kernel)) (by decide +kernel)
  rcases List.mem_cons.mp hw with rfl | hw
  · exact mz_t1 (List.mem_of_getElem? (i := 137) (by decide +kernel)) (by decide +kernel)
  rcases List.mem_cons.mp hw with rfl | hw
  · exact mz_t1 (List.mem_of_getElem? (i := 139) (by decide +kernel)) (by decide +kernel)
  rcases List.mem_cons.mp hw with rfl | hw
  · exact mz_t1 (List.mem_of_getElem? (i := 141) (by decide +kernel)) (by decide +kernel)
  rcases List.mem_cons.mp hw with rfl | hw
  · exact mz_t1 (List.mem_of_getElem? (i := 143) (by decide +kernel)) (by decide +kernel)
  · cases hw
theorem cl_6 : mzCl 6 RZ6 TZ6 7 yZ6 := by
  refine ⟨rfl, ?_, by decide +kernel, by decide +kernel, rfl, by decide +kernel⟩
  intro w hw
  have hw : w ∈ [u_lay RZ6 TZ6 0, u_lay RZ6 TZ6 1, u_lay RZ6 TZ6 2, u_lay RZ6 TZ6 3, u_lay RZ6 TZ6 4, u_lay RZ6 TZ6 5, u_lay RZ6 TZ6 6] := hw
  rcases List.mem_cons.mp hw with rfl | hw
  · exact mz_t1 (List.mem_of_getElem? (i := 163) (by decide +kernel)) (by decide +kernel)
  rcases List.mem_cons.mp hw with rfl | hw
  · exact mz_t1 (List.mem_of_getElem? (i := 165) (by decide +kernel)) (by decide +kernel)
  rcases List.mem_cons.mp hw with rfl | hw
  · exact mz_t1 (List.mem_of_getElem? (i := 167) (by decide +kernel)) (by decide +kernel)
  rcases List.mem_cons.mp hw with rfl | hw
  · exact mz_t1 (List.mem_of_getElem? (i := 169) (by decide +kernel)) (by decide +kernel)
  rcases List.mem_cons.mp hw with rfl | hw
  · exact mz_t1 (List.mem_of_getElem? (i := 171) (by decide +kernel)) (by decide +kernel)
  rcases List.mem_cons.mp hw with rfl | hw
  · exact mz_t1 (List.mem_of_getElem? (i := 173) (by decide +kernel)) (by decide +kernel)
  rcases List.mem_cons.mp hw with rfl | hw
  · exact mz_t1 (List.mem_of_getElem? (i := 175) (by decide +kernel)) (by decide +kernel)
  · cases hw
theorem cl_7 : mzCl 7 RZ7 TZ7 4 yZ7 := by
  refine ⟨rfl, ?_, by decide +kernel, by decide +kernel, rfl, by decide +kernel⟩
  intro w hw
  have hw : w ∈ [u_lay RZ7 TZ7 0, u_lay RZ7 TZ7 1, u_lay RZ7 TZ7 2, u_lay RZ7 TZ7 3] := hw
  rcases List.mem_cons.mp hw with rfl | hw
  · exact mz_t1 (List.mem_of_getElem? (i := 193) (by decide +kernel)) (by decide +kernel)
  rcases List.mem_cons.mp hw with rfl | hw
  · exact mz_t1 (List.mem_of_getElem? (i := 195) (by decide +kernel)) (by decide +kernel)
  rcases List.mem_cons.mp hw with rfl | hw
  · exact mz_t1 (List.mem_of_getElem? (i := 197) (by decide +kernel)) (by decide +kernel)
  rcases List.mem_cons.mp hw with rfl | hw
  · exact mz_t1 (List.mem_of_getElem? (i := 199) (by decide +kernel)) (by decide +kernel)
  · cases hw
theorem cl_8 : mzCl 8 RZ8 TZ8 8 yZ8 := by
  refine ⟨rfl, ?_, by decide +kernel, by decide +kernel, rfl, by decide +kernel⟩
  intro w hw
  have hw : w ∈ [u_lay RZ8 TZ8 0, u_lay RZ8 TZ8 1, u_lay RZ8 TZ8 2, u_lay RZ8 TZ8 3, u_lay RZ8 TZ8 4, u_lay RZ8 TZ8 5, u_lay RZ8 TZ8 6, u_lay RZ8 TZ8 7] := hw
  rcases List.mem_cons.mp hw with rfl | hw
  · exact mz_t1 (List.mem_of_getElem? (i := 223) (by decide +kernel)) (by decide +kernel)
  rcases List.mem_cons.mp hw with rfl | hw
  · exact mz_t1 (List.mem_of_getElem? (i := 225) (by decide +kernel)) (by decide +kernel)
  rcases List.mem_cons.mp hw with rfl | hw
  · exact mz_t1 (List.mem_of_getElem? (i := 227) (by decide +kernel)) (by decide +kernel)
  rcases List.mem_cons.mp hw with rfl | hw
  · exact mz_t1 (List.mem_of_getElem? (i := 229) (by decide +kernel)) (by decide +kernel)
  rcases List.mem_cons.mp hw with rfl | hw
  · exact mz_t1 (List.mem_of_getElem? (i := 231) (by decide +kernel)) (by decide +kernel)
  rcases List.mem_cons.mp hw with rfl | hw
  · exact mz_t1 (List.mem_of_getElem? (i := 233) (by decide +kernel)) (by decide +kernel)
  rcases List.mem_cons.mp hw with rfl | hw
  · exact mz_t1 (List.mem_of_getElem? (i := 235) (by decide +kernel)) (by decide +kernel)
  rcases List.mem_cons.mp hw with rfl | hw
  · exact mz_t1 (List.mem_of_getElem? (i := 237) (by decide +kernel)) (by decide +kernel)
  · cases hw
theorem cl_9 : mzCl 9 RZ9 TZ9 9 yZ9 := by
  refine ⟨rfl, ?_, by decide +kernel, by decide +kernel, rfl, by decide +kernel⟩
  intro w hw
  have hw : w ∈ [u_lay RZ9 TZ9 0, u_lay RZ9 TZ9 1, u_lay RZ9 TZ9 2, u_lay RZ9 TZ9 3, u_lay RZ9 TZ9 4, u_lay RZ9 TZ9 5, u_lay RZ9 TZ9 6, u_lay RZ9 TZ9 7, u_lay RZ9 TZ9 8] := hw
  rcases List.mem_cons.mp hw with rfl | hw
  · exact mz_t2 (List.mem_of_getElem? (i := 79) (by decide +kernel)) (by decide +kernel)
  rcases List.mem_cons.mp hw with rfl | hw
  · exact mz_t2 (List.mem_of_getElem? (i := 81) (by decide +kernel)) (by decide +kernel)
  rcases List.mem_cons.mp hw with rfl | hw
  · exact mz_t2 (List.mem_of_getElem? (i := 83) (by decide +kernel)) (by decide +kernel)
  rcases List.mem_cons.mp hw with rfl | hw
  · exact mz_t2 (List.mem_of_getElem? (i := 85) (by decide +kernel)) (by decide +kernel)
  rcases List.mem_cons.mp hw with rfl | hw
  · exact mz_t2 (List.mem_of_getElem? (i := 87) (by decide +kernel)) (by decide +kernel)
  rcases List.mem_cons.mp hw with rfl | hw
  · exact mz_t2 (List.mem_of_getElem? (i := 89) (by decide +kernel)) (by decide +kernel)
  rcases List.mem_cons.mp hw with rfl | hw
  · exact mz_t2 (List.mem_of_getElem? (i := 91) (by decide +kernel)) (by decide +kernel)
  rcases List.mem_cons.mp hw with rfl | hw
  · exact mz_t2 (List.mem_of_getElem? (i := 93) (by decide +kernel)) (by decide +kernel)
  rcases List.mem_cons.mp hw with rfl | hw
  · exact mz_t2 (List.mem_of_getElem? (i := 95) (by decide +kernel)) (by decide +kernel)
  · cases hw
theorem cl_10 : mzCl 10 RZ10 TZ10 45 yZ10 := by
  refine ⟨rfl, ?_, by decide +kernel, by decide +kernel, rfl, by decide +kernel⟩
  intro w hw
  have hw : w ∈ [u_lay RZ10 TZ10 0, u_lay RZ10 TZ10 1, u_lay RZ10 TZ10 2, u_lay RZ10 TZ10 3, u_lay RZ10 TZ10 4, u_lay RZ10 TZ10 5, u_lay RZ10 TZ10 6, u_lay RZ10 TZ10 7, u_lay RZ10 TZ10 8, u_lay RZ10 TZ10 9, u_lay RZ10 TZ10 10, u_lay RZ10 TZ10 11, u_lay RZ10 TZ10 12, u_lay RZ10 TZ10 13, u_lay RZ10 TZ10 14, u_lay RZ10 TZ10 15, u_lay RZ10 TZ10 16, u_lay RZ10 TZ10 17, u_lay RZ10 TZ10 18, u_lay RZ10 TZ10 19, u_lay RZ10 TZ10 20, u_lay RZ10 TZ10 21, u_lay RZ10 TZ10 22, u_lay RZ10 TZ10 23, u_lay RZ10 TZ10 24, u_lay RZ10 TZ10 25, u_lay RZ10 TZ10 26, u_lay RZ10 TZ10 27, u_lay RZ10 TZ10 28, u_lay RZ10 TZ10 29, u_lay RZ10 TZ10 30, u_lay RZ10 TZ10 31, u_lay RZ10 TZ10 32, u_lay RZ10 TZ10 33, u_lay RZ10 TZ10 34, u_lay RZ10 TZ10 35, u_lay RZ10 TZ10 36, u_lay RZ10 TZ10 37, u_lay RZ10 TZ10 38, u_lay RZ10 TZ10 39, u_lay RZ10 TZ10 40, u_lay RZ10 TZ10 41, u_lay RZ10 TZ10 42, u_lay RZ10 TZ10 43, u_lay RZ10 TZ10 44] := hw
  rcases List.mem_cons.mp hw with rfl | hw
  · exact mz_t5 (List.mem_of_getElem? (i := 132) (by decide +kernel)) (by decide +kernel)
  rcases List.mem_cons.mp hw with rfl | hw
  · exact mz_t5 (List.mem_of_getElem? (i := 134) (by decide +kernel)) (by decide +kernel)
  rcases List.mem_cons.mp hw with rfl | hw
  · exact mz_t5 (List.mem_of_getElem? (i := 136) (by decide +kernel)) (by decide +kernel)
  rcases List.mem_cons.mp hw with rfl | hw
  · exact mz_t5 (List.mem_of_getElem? (i := 138) (by decide +kernel)) (by decide +kernel)
  rcases List.mem_cons.mp hw with rfl | hw
  · exact mz_t5 (List.mem_of_getElem? (i := 140) (by decide +kernel)) (by decide +kernel)
  rcases List.mem_cons.mp hw with rfl | hw
  · exact mz_t5 (List.mem_of_getElem? (i := 142) (by decide +kernel)) (by decide +kernel)
  rcases List.mem_cons.mp hw with rfl | hw
  · exact mz_t5 (List.mem_of_getElem? (i := 144) (by decide +kernel)) (by decide +kernel)
  rcases List.mem_cons.mp hw with rfl | hw
  · exact mz_t5 (List.mem_of_getElem? (i := 146) (by decide +kernel)) (by decide +kernel)
  rcases List.mem_cons.mp hw with rfl | hw
  · exact mz_t5 (List.mem_of_getElem? (i := 148) (by decide +kernel)) (by decide +kernel)
  rcases List.mem_cons.mp hw with rfl | hw
  · exact mz_t5 (List.mem_of_getElem? (i := 150) (by decide +kernel)) (by decide +kernel)
  rcases List.mem_cons.mp hw with rfl | hw
  · exact mz_t5 (List.mem_of_getElem? (i := 152) (by decide +kernel)) (by decide +kernel)
  rcases List.mem_cons.mp hw with rfl | hw
  · exact mz_t5 (List.mem_of_getElem? (i := 154) (by decide +kernel)) (by decide +kernel)
  rcases List.mem_cons.mp hw with rfl | hw
  · exact mz_t5 (List.mem_of_getElem? (i := 156) (by decide +kernel)) (by decide +kernel)
  rcases List.mem_cons.mp hw with rfl | hw
  · exact mz_t5 (List.mem_of_getElem? (i := 158) (by decide +kernel)) (by decide +kernel)
  rcases List.mem_cons.mp hw with rfl | hw
  · exact mz_t5 (List.mem_of_getElem? (i := 160) (by decide +kernel)) (by decide +kernel)
  rcases List.mem_cons.mp hw with rfl | hw
  · exact mz_t5 (List.mem_of_getElem? (i := 162) (by decide +kernel)) (by decide +kernel)
  rcases List.mem_cons.mp hw with rfl | hw
  · exact mz_t5 (List.mem_of_getElem? (i := 164) (by decide +kernel)) (by decide +kernel)
  rcases List.mem_cons.mp hw with rfl | hw
  · exact mz_t5 (List.mem_of_getElem? (i := 166) (by decide +kernel)) (by decide +kernel)
  rcases List.mem_cons.mp hw with rfl | hw
  · exact mz_t5 (List.mem_of_getElem? (i := 168) (by decide +kernel)) (by decide +kernel)
  rcases List.mem_cons.mp hw with rfl | hw
  · exact mz_t5 (List.mem_of_getElem? (i := 170) (by decide +kernel)) (by decide +kernel)
  rcases List.mem_cons.mp hw with rfl | hw
  · exact mz_t5 (List.mem_of_getElem? (i := 172) (by decide +kernel)) (by decide +kernel)
  rcases List.mem_cons.mp hw with rfl | hw
  · exact mz_t5 (List.mem_of_getElem? (i := 174) (by decide +kernel)) (by decide +kernel)
  rcases List.mem_cons.mp hw with rfl | hw
  · exact mz_t5 (List.mem_of_getElem? (i := 176) (by decide +kernel)) (by decide +kernel)
  rcases List.mem_cons.mp hw with rfl | hw
  · exact mz_t5 (List.mem_of_getElem? (i := 178) (by decide +kernel)) (by decide +kernel)
  rcases List.mem_cons.mp hw with rfl | hw
  · exact mz_t5 (List.mem_of_getElem? (i := 180) (by decide +kernel)) (by decide +kernel)
  rcases List.mem_cons.mp hw with rfl | hw
  · exact mz_t5 (List.mem_of_getElem? (i := 182) (by decide +kernel)) (by decide +kernel)
  rcases List.mem_cons.mp hw with rfl | hw
  · exact mz_t5 (List.mem_of_getElem? (i := 184) (by decide +kernel)) (by decide +kernel)
  rcases List.mem_cons.mp hw with rfl | hw
  · exact mz_t5 (List.mem_of_getElem? (i := 186) (by decide +kernel)) (by decide +kernel)
  rcases List.mem_cons.mp hw with rfl | hw
  · exact mz_t5 (List.mem_of_getElem? (i := 188) (by decide +kernel)) (by decide +kernel)
  rcases List.mem_cons.mp hw with rfl | hw
  · exact mz_t5 (List.mem_of_getElem? (i := 190) (by decide +kernel)) (by decide +kernel)
  rcases List.mem_cons.mp hw with rfl | hw
  · exact mz_t5 (List.mem_of_getElem? (i := 192) (by decide +kernel)) (by decide +kernel)
  rcases List.mem_cons.mp hw with rfl | hw
  · exact mz_t5 (List.mem_of_getElem? (i := 194) (by decide +kernel)) (by decide +kernel)
  rcases List.mem_cons.mp hw with rfl | hw
  · exact mz_t5 (List.mem_of_getElem? (i := 196) (by decide +kernel)) (by decide +kernel)
  rcases List.mem_cons.mp hw with rfl | hw
  · exact mz_t5 (List.mem_of_getElem? (i := 198) (by decide +kernel)) (by decide +kernel)
  rcases List.mem_cons.mp hw with rfl | hw
  · exact mz_t5 (List.mem_of_getElem? (i := 200) (by decide +kernel)) (by decide +kernel)
  rcases List.mem_cons.mp hw with rfl | hw
  · exact mz_t5 (List.mem_of_getElem? (i := 202) (by decide +kernel)) (by decide +kernel)
  rcases List.mem_cons.mp hw with rfl | hw
  · exact mz_t5 (List.mem_of_getElem? (i := 204) (by decide +kernel)) (by decide +kernel)
  rcases List.mem_cons.mp hw with rfl | hw
  · exact mz_t5 (List.mem_of_getElem? (i := 206) (by decide +kernel)) (by decide +kernel)
  rcases List.mem_cons.mp hw with rfl | hw
  · exact mz_t5 (List.mem_of_getElem? (i := 208) (by decide +kernel)) (by decide +kernel)
  rcases List.mem_cons.mp hw with rfl | hw
  · exact mz_t5 (List.mem_of_getElem? (i := 210) (by decide +kernel)) (by decide +kernel)
  rcases List.mem_cons.mp hw with rfl | hw
  · exact mz_t5 (List.mem_of_getElem? (i := 212) (by decide +kernel)) (by decide +kernel)
  rcases List.mem_cons.mp hw with rfl | hw
  · exact mz_t5 (List.mem_of_getElem? (i := 214) (by decide +kernel)) (by decide +kernel)
  rcases List.mem_cons.mp hw with rfl | hw
  · exact mz_t5 (List.mem_of_getElem? (i := 216) (by decide +kernel)) (by decide +kernel)
  rcases List.mem_cons.mp hw with rfl | hw
  · exact mz_t5 (List.mem_of_getElem? (i := 218) (by decide +kernel)) (by decide +kernel)
  rcases List.mem_cons.mp hw with rfl | hw
  · exact mz_t5 (List.mem_of_getElem? (i := 220) (by decide +kernel)) (by decide +kernel)
  · cases hw
