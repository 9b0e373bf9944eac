section
/-! THE START holds the INVARIANT -/
theorem nxR {σ τ : AH} {o k i : Nat} {v : Option Nat} (e : τ = sR σ o k v) : gI τ i = gI σ i := by rw [e, gI_sR]
theorem nxW {σ τ : AH} {k t n k1 s i : Nat} (e : τ = awL σ k t n k1 s) (h : i ≠ k) : gI τ i = gI σ i := by rw [e]; exact up_ne _ _ _ h
theorem nxI {σ τ : AH} {o k i : Nat} {v : Int32} (e : τ = sI σ o k v) (h : i ≠ o) : gI τ i = gI σ i := by rw [e]; exact gI_sI_row h
theorem nxA {σ τ : AH} {o i : Nat} {g : Nat → Int32} (e : τ = sA σ o g) (h : i ≠ o) : gI τ i = gI σ i := by rw [e]; exact gI_sA_row h
theorem nxC {σ τ : AH} {k t n k1 s : Nat} (e : τ = awL σ k t n k1 s) : gI τ k = fun _ => 0 := by rw [e]; exact up_same _ _ _
theorem z125 : gI Zend 125 = fun _ => 0 := by
  refine (nxR (σ := Zs342) (τ := Zs343) rfl).trans ?_
  refine (nxW (σ := Zs341) (τ := Zs342) rfl (by decide)).trans ?_
  refine (nxR (σ := Zs340) (τ := Zs341) rfl).trans ?_
  refine (nxW (σ := Zs339) (τ := Zs340) rfl (by decide)).trans ?_
  refine (nxR (σ := Zs338) (τ := Zs339) rfl).trans ?_
  refine (nxW (σ := Zs337) (τ := Zs338) rfl (by decide)).trans ?_
  refine (nxR (σ := Zs336) (τ := Zs337) rfl).trans ?_
  refine (nxW (σ := Zs335) (τ := Zs336) rfl (by decide)).trans ?_
  refine (nxR (σ := Zs334) (τ := Zs335) rfl).trans ?_
  refine (nxW (σ := Zs333) (τ := Zs334) rfl (by decide)).trans ?_
  refine (nxR (σ := Zs332) (τ := Zs333) rfl).trans ?_
  refine (nxW (σ := Zs331) (τ := Zs332) rfl (by decide)).trans ?_
  refine (nxR (σ := Zs330) (τ := Zs331) rfl).trans ?_
  refine (nxW (σ := Zs329) (τ := Zs330) rfl (by decide)).trans ?_
  refine (nxR (σ := Zs328) (τ := Zs329) rfl).trans ?_
  refine (nxW (σ := Zs327) (τ := Zs328) rfl (by decide)).trans ?_
  refine (nxR (σ := Zs326) (τ := Zs327) rfl).trans ?_
  refine (nxW (σ := Zs325) (τ := Zs326) rfl (by decide)).trans ?_
  refine (nxR (σ := Zs324) (τ := Zs325) rfl).trans ?_
  refine (nxW (σ := Zs323) (τ := Zs324) rfl (by decide)).trans ?_
  refine (nxR (σ := Zs322) (τ := Zs323) rfl).trans ?_
  refine (nxW (σ := Zs321) (τ := Zs322) rfl (by decide)).trans ?_
  refine (nxR (σ := Zs320) (τ := Zs321) rfl).trans ?_
  refine (nxW (σ := Zs319) (τ := Zs320) rfl (by decide)).trans ?_
  refine (nxR (σ := Zs318) (τ := Zs319) rfl).trans ?_
  refine (nxW (σ := Zs317) (τ := Zs318) rfl (by decide)).trans ?_
  refine (nxR (σ := Zs316) (τ := Zs317) rfl).trans ?_
  refine (nxW (σ := Zs315) (τ := Zs316) rfl (by decide)).trans ?_
  refine (nxR (σ := Zs314) (τ := Zs315) rfl).trans ?_
  refine (nxW (σ := Zs313) (τ := Zs314) rfl (by decide)).trans ?_
  refine (nxR (σ := Zs312) (τ := Zs313) rfl).trans ?_
  refine (nxW (σ := Zs311) (τ := Zs312) rfl (by decide)).trans ?_
  refine (nxR (σ := Zs310) (τ := Zs311) rfl).trans ?_
  refine (nxW (σ := Zs309) (τ := Zs310) rfl (by decide)).trans ?_
  refine (nxR (σ := Zs308) (τ := Zs309) rfl).trans ?_
  refine (nxW (σ := Zs307) (τ := Zs308) rfl (by decide)).trans ?_
  refine (nxR (σ := Zs306) (τ := Zs307) rfl).trans ?_
  refine (nxW (σ := Zs305) (τ := Zs306) rfl (by decide)).trans ?_
  refine (nxR (σ := Zs304) (τ := Zs305) rfl).trans ?_
  refine (nxW (σ := Zs303) (τ := Zs304) rfl (by decide)).trans ?_
  refine (nxR (σ := Zs302) (τ := Zs303) rfl).trans ?_
  refine (nxW (σ := Zs301) (τ := Zs302) rfl (by decide)).trans ?_
  refine (nxR (σ := Zs300) (τ := Zs301) rfl).trans ?_
  refine (nxW (σ := Zs299) (τ := Zs300) rfl (by decide)).trans ?_
  refine (nxR (σ := Zs298) (τ := Zs299) rfl).trans ?_
  refine (nxW (σ := Zs297) (τ := Zs298) rfl (by decide)).trans ?_
  refine (nxR (σ := Zs296) (τ := Zs297) rfl).trans ?_
  refine (nxW (σ := Zs295) (τ := Zs296) rfl (by decide)).trans ?_
  refine (nxR (σ := Zs294) (τ := Zs295) rfl).trans ?_
  refine (nxW (σ := Zs293) (τ := Zs294) rfl (by decide)).trans ?_
  refine (nxR (σ := Zs292) (τ := Zs293) rfl).trans ?_
  refine (nxW (σ := Zs291) (τ := Zs292) rfl (by decide)).trans ?_
  refine (nxR (σ := Zs290) (τ := Zs291) rfl).trans ?_
  refine (nxW (σ := Zs289) (τ := Zs290) rfl (by decide)).trans ?_
  refine (nxR (σ := Zs288) (τ := Zs289) rfl).trans ?_
  refine (nxW (σ := Zs287) (τ := Zs288) rfl (by decide)).trans ?_
  refine (nxR (σ := Zs286) (τ := Zs287) rfl).trans ?_
  refine (nxW (σ := Zs285) (τ := Zs286) rfl (by decide)).trans ?_
  refine (nxR (σ := Zs284) (τ := Zs285) rfl).trans ?_
  refine (nxW (σ := Zs283) (τ := Zs284) rfl (by decide)).trans ?_
  refine (nxR (σ := Zs282) (τ := Zs283) rfl).trans ?_
  refine (nxW (σ := Zs281) (τ := Zs282) rfl (by decide)).trans ?_
  refine (nxR (σ := Zs280) (τ := Zs281) rfl).trans ?_
  refine (nxW (σ := (sI Zs279 (nx Zs260) 24 (-1 : Int32))) (τ := Zs280) rfl (by decide)).trans ?_
  refine (gI_sI_row (by decide +kernel)).trans ?_
  refine (nxR (σ := Zs278) (τ := Zs279) rfl).trans ?_
  refine (nxW (σ := Zs277) (τ := Zs278) rfl (by decide)).trans ?_
  refine (nxR (σ := Zs276) (τ := Zs277) rfl).trans ?_
  refine (nxW (σ := Zs275) (τ := Zs276) rfl (by decide)).trans ?_
  refine (nxR (σ := Zs274) (τ := Zs275) rfl).trans ?_
  refine (nxW (σ := Zs273) (τ := Zs274) rfl (by decide)).trans ?_
  refine (nxR (σ := Zs272) (τ := Zs273) rfl).trans ?_
  refine (nxW (σ := Zs271) (τ := Zs272) rfl (by decide)).trans ?_
  refine (nxR (σ := Zs270) (τ := Zs271) rfl).trans ?_
  refine (nxW (σ := (sI Zs269 (nx Zs260) 11 (-1 : Int32))) (τ := Zs270) rfl (by decide)).trans ?_
  refine (gI_sI_row (by decide +kernel)).trans ?_
  refine (nxR (σ := Zs268) (τ := Zs269) rfl).trans ?_
  refine (nxW (σ := Zs267) (τ := Zs268) rfl (by decide)).trans ?_
  refine (nxR (σ := Zs266) (τ := Zs267) rfl).trans ?_
  refine (nxW (σ := Zs265) (τ := Zs266) rfl (by decide)).trans ?_
  refine (nxR (σ := Zs264) (τ := Zs265) rfl).trans ?_
  refine (nxW (σ := Zs263) (τ := Zs264) rfl (by decide)).trans ?_
  refine (nxR (σ := Zs262) (τ := Zs263) rfl).trans ?_
  exact nxC (τ := Zs262) rfl
theorem z20 : gI Zend 20 = fun _ => 0 := by
  refine (nxR (σ := Zs342) (τ := Zs343) rfl).trans ?_
  refine (nxW (σ := Zs341) (τ := Zs342) rfl (by decide)).trans ?_
  refine (nxR (σ := Zs340) (τ := Zs341) rfl).trans ?_
  refine (nxW (σ := Zs339) (τ := Zs340) rfl (by decide)).trans ?_
  refine (nxR (σ := Zs338) (τ := Zs339) rfl).trans ?_
  refine (nxW (σ := Zs337) (τ := Zs338) rfl (by decide)).trans ?_
  refine (nxR (σ := Zs336) (τ := Zs337) rfl).trans ?_
  refine (nxW (σ := Zs335) (τ := Zs336) rfl (by decide)).trans ?_
  refine (nxR (σ := Zs334) (τ := Zs335) rfl).trans ?_
  refine (nxW (σ := Zs333) (τ := Zs334) rfl (by decide)).trans ?_
  refine (nxR (σ := Zs332) (τ := Zs333) rfl).trans ?_
  refine (nxW (σ := Zs331) (τ := Zs332) rfl (by decide)).trans ?_
  refine (nxR (σ := Zs330) (τ := Zs331) rfl).trans ?_
  refine (nxW (σ := Zs329) (τ := Zs330) rfl (by decide)).trans ?_
  refine (nxR (σ := Zs328) (τ := Zs329) rfl).trans ?_
  refine (nxW (σ := Zs327) (τ := Zs328) rfl (by decide)).trans ?_
  refine (nxR (σ := Zs326) (τ := Zs327) rfl).trans ?_
  refine (nxW (σ := Zs325) (τ := Zs326) rfl (by decide)).trans ?_
  refine (nxR (σ := Zs324) (τ := Zs325) rfl).trans ?_
  refine (nxW (σ := Zs323) (τ := Zs324) rfl (by decide)).trans ?_
  refine (nxR (σ := Zs322) (τ := Zs323) rfl).trans ?_
  refine (nxW (σ := Zs321) (τ := Zs322) rfl (by decide)).trans ?_
  refine (nxR (σ := Zs320) (τ := Zs321) rfl).trans ?_
  refine (nxW (σ := Zs319) (τ := Zs320) rfl (by decide)).trans ?_
  refine (nxR (σ := Zs318) (τ := Zs319) rfl).trans ?_
  refine (nxW (σ := Zs317) (τ := Zs318) rfl (by decide)).trans ?_
  refine (nxR (σ := Zs316) (τ := Zs317) rfl).trans ?_
  refine (nxW (σ := Zs315) (τ := Zs316) rfl (by decide)).trans ?_
  refine (nxR (σ := Zs314) (τ := Zs315) rfl).trans ?_
  refine (nxW (σ := Zs313) (τ := Zs314) rfl (by decide)).trans ?_
  refine (nxR (σ := Zs312) (τ := Zs313) rfl).trans ?_
  refine (nxW (σ := Zs311) (τ := Zs312) rfl (by decide)).trans ?_
  refine (nxR (σ := Zs310) (τ := Zs311) rfl).trans ?_
  refine (nxW (σ := Zs309) (τ := Zs310) rfl (by decide)).trans ?_
  refine (nxR (σ := Zs308) (τ := Zs309) rfl).trans ?_
  refine (nxW (σ := Zs307) (τ := Zs308) rfl (by decide)).trans ?_
  refine (nxR (σ := Zs306) (τ := Zs307) rfl).trans ?_
  refine (nxW (σ := Zs305) (τ := Zs306) rfl (by decide)).trans ?_
  refine (nxR (σ := Zs304) (τ := Zs305) rfl).trans ?_
  refine (nxW (σ := Zs303) (τ := Zs304) rfl (by decide)).trans ?_
  refine (nxR (σ := Zs302) (τ := Zs303) rfl).trans ?_
  refine (nxW (σ := Zs301) (τ := Zs302) rfl (by decide)).trans ?_
  refine (nxR (σ := Zs300) (τ := Zs301) rfl).trans ?_
  refine (nxW (σ := Zs299) (τ := Zs300) rfl (by decide)).trans ?_
  refine (nxR (σ := Zs298) (τ := Zs299) rfl).trans ?_
  refine (nxW (σ := Zs297) (τ := Zs298) rfl (by decide)).trans ?_
  refine (nxR (σ := Zs296) (τ := Zs297) rfl).trans ?_
  refine (nxW (σ := Zs295) (τ := Zs296) rfl (by decide)).trans ?_
  refine (nxR (σ := Zs294) (τ := Zs295) rfl).trans ?_
  refine (nxW (σ := Zs293) (τ := Zs294) rfl (by decide)).trans ?_
  refine (nxR (σ := Zs292) (τ := Zs293) rfl).trans ?_
  refine (nxW (σ := Zs291) (τ := Zs292) rfl (by decide)).trans ?_
  refine (nxR (σ := Zs290) (τ := Zs291) rfl).trans ?_
  refine (nxW (σ := Zs289) (τ := Zs290) rfl (by decide)).trans ?_
  refine (nxR (σ := Zs288) (τ := Zs289) rfl).trans ?_
  refine (nxW (σ := Zs287) (τ := Zs288) rfl (by decide)).trans ?_
  refine (nxR (σ := Zs286) (τ := Zs287) rfl).trans ?_
  refine (nxW (σ := Zs285) (τ := Zs286) rfl (by decide)).trans ?_
  refine (nxR (σ := Zs284) (τ := Zs285) rfl).trans ?_
  refine (nxW (σ := Zs283) (τ := Zs284) rfl (by decide)).trans ?_
  refine (nxR (σ := Zs282) (τ := Zs283) rfl).trans ?_
  refine (nxW (σ := Zs281) (τ := Zs282) rfl (by decide)).trans ?_
  refine (nxR (σ := Zs280) (τ := Zs281) rfl).trans ?_
  refine (nxW (σ := (sI Zs279 (nx Zs260) 24 (-1 : Int32))) (τ := Zs280) rfl (by decide)).trans ?_
  refine (gI_sI_row (by decide +kernel)).trans ?_
  refine (nxR (σ := Zs278) (τ := Zs279) rfl).trans ?_
  refine (nxW (σ := Zs277) (τ := Zs278) rfl (by decide)).trans ?_
  refine (nxR (σ := Zs276) (τ := Zs277) rfl).trans ?_
  refine (nxW (σ := Zs275) (τ := Zs276) rfl (by decide)).trans ?_
  refine (nxR (σ := Zs274) (τ := Zs275) rfl).trans ?_
  refine (nxW (σ := Zs273) (τ := Zs274) rfl (by decide)).trans ?_
  refine (nxR (σ := Zs272) (τ := Zs273) rfl).trans ?_
  refine (nxW (σ := Zs271) (τ := Zs272) rfl (by decide)).trans ?_
  refine (nxR (σ := Zs270) (τ := Zs271) rfl).trans ?_
  refine (nxW (σ := (sI Zs269 (nx Zs260) 11 (-1 : Int32))) (τ := Zs270) rfl (by decide)).trans ?_
  refine (gI_sI_row (by decide +kernel)).trans ?_
  refine (nxR (σ := Zs268) (τ := Zs269) rfl).trans ?_
  refine (nxW (σ := Zs267) (τ := Zs268) rfl (by decide)).trans ?_
  refine (nxR (σ := Zs266) (τ := Zs267) rfl).trans ?_
  refine (nxW (σ := Zs265) (τ := Zs266) rfl (by decide)).trans ?_
  refine (nxR (σ := Zs264) (τ := Zs265) rfl).trans ?_
  refine (nxW (σ := Zs263) (τ := Zs264) rfl (by decide)).trans ?_
  refine (nxR (σ := Zs262) (τ := Zs263) rfl).trans ?_
  refine (nxW (σ := Zs261) (τ := Zs262) rfl (by decide)).trans ?_
  refine (nxW (σ := Zs260) (τ := Zs261) rfl (by decide)).trans ?_
  refine (nxI (σ := Zs259) (τ := Zs260) rfl (by decide +kernel)).trans ?_
  refine (nxR (σ := Zs258) (τ := Zs259) rfl).trans ?_
  refine (nxR (σ := Zs257) (τ := Zs258) rfl).trans ?_
  refine (nxR (σ := Zs256) (τ := Zs257) rfl).trans ?_
  refine (nxR (σ := Zs255) (τ := Zs256) rfl).trans ?_
  refine (nxR (σ := Zs254) (τ := Zs255) rfl).trans ?_
  refine (nxW (σ := Zs253) (τ := Zs254) rfl (by decide)).trans ?_
  refine (nxR (σ := Zs252) (τ := Zs253) rfl).trans ?_
  refine (nxW (σ := Zs251) (τ := Zs252) rfl (by decide)).trans ?_
  refine (nxR (σ := Zs250) (τ := Zs251) rfl).trans ?_
  refine (nxW (σ := Zs249) (τ := Zs250) rfl (by decide)).trans ?_
  refine (nxR (σ := Zs248) (τ := Zs249) rfl).trans ?_
  refine (nxW (σ := Zs247) (τ := Zs248) rfl (by decide)).trans ?_
  refine (nxW (σ := Zs246) (τ := Zs247) rfl (by decide)).trans ?_
  refine (nxR (σ := Zs245) (τ := Zs246) rfl).trans ?_
  refine (nxR (σ := Zs244) (τ := Zs245) rfl).trans ?_
  refine (nxR (σ := Zs243) (τ := Zs244) rfl).trans ?_
  refine (nxR (σ := Zs242) (τ := Zs243) rfl).trans ?_
  refine (nxW (σ := Zs241) (τ := Zs242) rfl (by decide)).trans ?_
  refine (nxR (σ := Zs240) (τ := Zs241) rfl).trans ?_
  refine (nxW (σ := Zs239) (τ := Zs240) rfl (by decide)).trans ?_
  refine (nxR (σ := Zs238) (τ := Zs239) rfl).trans ?_
  refine (nxW (σ := Zs237) (τ := Zs238) rfl (by decide)).trans ?_
  refine (nxR (σ := Zs236) (τ := Zs237) rfl).trans ?_
  refine (nxW (σ := (sI (sI Zs235 (nx Zs232) 3 (-1 : Int32)) (nx Zs232) 4 (-1 : Int32))) (τ := Zs236) rfl (by decide)).trans ?_
  refine (gI_sI_row (by decide +kernel)).trans ?_
  refine (gI_sI_row (by decide +kernel)).trans ?_
  refine (nxR (σ := Zs234) (τ := Zs235) rfl).trans ?_
  refine (nxW (σ := Zs233) (τ := Zs234) rfl (by decide)).trans ?_
  refine (nxW (σ := Zs232) (τ := Zs233) rfl (by decide)).trans ?_
  refine (nxR (σ := Zs231) (τ := Zs232) rfl).trans ?_
  refine (nxR (σ := Zs230) (τ := Zs231) rfl).trans ?_
  refine (nxR (σ := Zs229) (τ := Zs230) rfl).trans ?_
  refine (nxW (σ := Zs228) (τ := Zs229) rfl (by decide)).trans ?_
  refine (nxR (σ := Zs227) (τ := Zs228) rfl).trans ?_
  refine (nxW (σ := Zs226) (τ := Zs227) rfl (by decide)).trans ?_
  refine (nxR (σ := Zs225) (τ := Zs226) rfl).trans ?_
  refine (nxW (σ := Zs224) (τ := Zs225) rfl (by decide)).trans ?_
  refine (nxR (σ := Zs223) (τ := Zs224) rfl).trans ?_
  refine (nxW (σ := Zs222) (τ := Zs223) rfl (by decide)).trans ?_
  refine (nxR (σ := Zs221) (τ := Zs222) rfl).trans ?_
  refine (nxW (σ := Zs220) (τ := Zs221) rfl (by decide)).trans ?_
  refine (nxR (σ := Zs219) (τ := Zs220) rfl).trans ?_
  refine (nxW (σ := Zs218) (τ := Zs219) rfl (by decide)).trans ?_
  refine (nxR (σ := Zs217) (τ := Zs218) rfl).trans ?_
  refine (nxW (σ := Zs216) (τ := Zs217) rfl (by decide)).trans ?_
  refine (nxR (σ := Zs215) (τ := Zs216) rfl).trans ?_
  refine (nxW (σ := Zs214) (τ := Zs215) rfl (by decide)).trans ?_
  refine (nxR (σ := Zs213) (τ := Zs214) rfl).trans ?_
  refine (nxW (σ := Zs212) (τ := Zs213) rfl (by decide)).trans ?_
  refine (nxW (σ := Zs211) (τ := Zs212) rfl (by decide)).trans ?_
  refine (nxR (σ := Zs210) (τ := Zs211) rfl).trans ?_
  refine (nxR (σ := Zs209) (τ := Zs210) rfl).trans ?_
  refine (nxW (σ := Zs208) (τ := Zs209) rfl (by decide)).trans ?_
  refine (nxR (σ := Zs207) (τ := Zs208) rfl).trans ?_
  refine (nxW (σ := Zs206) (τ := Zs207) rfl (by decide)).trans ?_
  refine (nxR (σ := Zs205) (τ := Zs206) rfl).trans ?_
  refine (nxW (σ := Zs204) (τ := Zs205) rfl (by decide)).trans ?_
  refine (nxR (σ := Zs203) (τ := Zs204) rfl).trans ?_
  refine (nxW (σ := Zs202) (τ := Zs203) rfl (by decide)).trans ?_
  refine (nxR (σ := Zs201) (τ := Zs202) rfl).trans ?_
  refine (nxW (σ := Zs200) (τ := Zs201) rfl (by decide)).trans ?_
  refine (nxR (σ := Zs199) (τ := Zs200) rfl).trans ?_
  refine (nxW (σ := Zs198) (τ := Zs199) rfl (by decide)).trans ?_
  refine (nxR (σ := Zs197) (τ := Zs198) rfl).trans ?_
  refine (nxW (σ := Zs196) (τ := Zs197) rfl (by decide)).trans ?_
  refine (nxR (σ := Zs195) (τ := Zs196) rfl).trans ?_
  refine (nxW (σ := Zs194) (τ := Zs195) rfl (by decide)).trans ?_
  refine (nxR (σ := Zs193) (τ := Zs194) rfl).trans ?_
  refine (nxW (σ := Zs192) (τ := Zs193) rfl (by decide)).trans ?_
  refine (nxW (σ := Zs191) (τ := Zs192) rfl (by decide)).trans ?_
  refine (nxR (σ := Zs190) (τ := Zs191) rfl).trans ?_
  refine (nxR (σ := Zs189) (τ := Zs190) rfl).trans ?_
  refine (nxW (σ := Zs188) (τ := Zs189) rfl (by decide)).trans ?_
  refine (nxR (σ := Zs187) (τ := Zs188) rfl).trans ?_
  refine (nxW (σ := Zs186) (τ := Zs187) rfl (by decide)).trans ?_
  refine (nxR (σ := Zs185) (τ := Zs186) rfl).trans ?_
  refine (nxW (σ := Zs184) (τ := Zs185) rfl (by decide)).trans ?_
  refine (nxR (σ := Zs183) (τ := Zs184) rfl).trans ?_
  refine (nxW (σ := Zs182) (τ := Zs183) rfl (by decide)).trans ?_
  refine (nxR (σ := Zs181) (τ := Zs182) rfl).trans ?_
  refine (nxW (σ := Zs180) (τ := Zs181) rfl (by decide)).trans ?_
  refine (nxR (σ := Zs179) (τ := Zs180) rfl).trans ?_
  refine (nxW (σ := Zs178) (τ := Zs179) rfl (by decide)).trans ?_
  refine (nxR (σ := Zs177) (τ := Zs178) rfl).trans ?_
  refine (nxW (σ := Zs176) (τ := Zs177) rfl (by decide)).trans ?_
  refine (nxR (σ := Zs175) (τ := Zs176) rfl).trans ?_
  refine (nxW (σ := Zs174) (τ := Zs175) rfl (by decide)).trans ?_
  refine (nxR (σ := Zs173) (τ := Zs174) rfl).trans ?_
  refine (nxW (σ := Zs172) (τ := Zs173) rfl (by decide)).trans ?_
  refine (nxW (σ := Zs171) (τ := Zs172) rfl (by decide)).trans ?_
  refine (nxR (σ := Zs170) (τ := Zs171) rfl).trans ?_
  refine (nxR (σ := (sI (sI Zs169 (nx Zs140) 12 (-1 : Int32)) (nx Zs140) 13 (-1 : Int32))) (τ := Zs170) rfl).trans ?_
  refine (gI_sI_row (by decide +kernel)).trans ?_
  refine (gI_sI_row (by decide +kernel)).trans ?_
  refine (nxR (σ := Zs168) (τ := Zs169) rfl).trans ?_
  refine (nxW (σ := Zs167) (τ := Zs168) rfl (by decide)).trans ?_
  refine (nxR (σ := Zs166) (τ := Zs167) rfl).trans ?_
  refine (nxW (σ := Zs165) (τ := Zs166) rfl (by decide)).trans ?_
  refine (nxR (σ := Zs164) (τ := Zs165) rfl).trans ?_
  refine (nxW (σ := (sI (sI Zs163 (nx Zs140) 6 (-1 : Int32)) (nx Zs140) 7 (-1 : Int32))) (τ := Zs164) rfl (by decide)).trans ?_
  refine (gI_sI_row (by decide +kernel)).trans ?_
  refine (gI_sI_row (by decide +kernel)).trans ?_
  refine (nxR (σ := Zs162) (τ := Zs163) rfl).trans ?_
  refine (nxR (σ := Zs161) (τ := Zs162) rfl).trans ?_
  refine (nxW (σ := Zs160) (τ := Zs161) rfl (by decide)).trans ?_
  refine (nxR (σ := Zs159) (τ := Zs160) rfl).trans ?_
  refine (nxW (σ := Zs158) (τ := Zs159) rfl (by decide)).trans ?_
  refine (nxR (σ := Zs157) (τ := Zs158) rfl).trans ?_
  refine (nxW (σ := Zs156) (τ := Zs157) rfl (by decide)).trans ?_
  refine (nxR (σ := Zs155) (τ := Zs156) rfl).trans ?_
  refine (nxW (σ := Zs154) (τ := Zs155) rfl (by decide)).trans ?_
  refine (nxR (σ := Zs153) (τ := Zs154) rfl).trans ?_
  refine (nxW (σ := Zs152) (τ := Zs153) rfl (by decide)).trans ?_
  refine (nxR (σ := Zs151) (τ := Zs152) rfl).trans ?_
  refine (nxW (σ := Zs150) (τ := Zs151) rfl (by decide)).trans ?_
  refine (nxR (σ := Zs149) (τ := Zs150) rfl).trans ?_
  refine (nxW (σ := Zs148) (τ := Zs149) rfl (by decide)).trans ?_
  refine (nxR (σ := Zs147) (τ := Zs148) rfl).trans ?_
  refine (nxW (σ := Zs146) (τ := Zs147) rfl (by decide)).trans ?_
  refine (nxR (σ := Zs145) (τ := Zs146) rfl).trans ?_
  refine (nxW (σ := Zs144) (τ := Zs145) rfl (by decide)).trans ?_
  refine (nxW (σ := Zs143) (τ := Zs144) rfl (by decide)).trans ?_
  refine (nxR (σ := Zs142) (τ := Zs143) rfl).trans ?_
  refine (nxW (σ := Zs141) (τ := Zs142) rfl (by decide)).trans ?_
  refine (nxW (σ := Zs140) (τ := Zs141) rfl (by decide)).trans ?_
  refine (nxR (σ := Zs139) (τ := Zs140) rfl).trans ?_
  refine (nxI (σ := (sI (sI Zs138 (nx Zs115) 2 (-1 : Int32)) (nx Zs115) 3 (-1 : Int32))) (τ := Zs139) rfl (by decide +kernel)).trans ?_
  refine (gI_sI_row (by decide +kernel)).trans ?_
  refine (gI_sI_row (by decide +kernel)).trans ?_
  refine (nxR (σ := Zs137) (τ := Zs138) rfl).trans ?_
  refine (nxW (σ := Zs136) (τ := Zs137) rfl (by decide)).trans ?_
  refine (nxR (σ := Zs135) (τ := Zs136) rfl).trans ?_
  refine (nxR (σ := Zs134) (τ := Zs135) rfl).trans ?_
  refine (nxW (σ := Zs133) (τ := Zs134) rfl (by decide)).trans ?_
  refine (nxR (σ := Zs132) (τ := Zs133) rfl).trans ?_
  refine (nxW (σ := Zs131) (τ := Zs132) rfl (by decide)).trans ?_
  refine (nxR (σ := Zs130) (τ := Zs131) rfl).trans ?_
  refine (nxW (σ := Zs129) (τ := Zs130) rfl (by decide)).trans ?_
  refine (nxR (σ := Zs128) (τ := Zs129) rfl).trans ?_
  refine (nxW (σ := Zs127) (τ := Zs128) rfl (by decide)).trans ?_
  refine (nxR (σ := Zs126) (τ := Zs127) rfl).trans ?_
  refine (nxW (σ := Zs125) (τ := Zs126) rfl (by decide)).trans ?_
  refine (nxR (σ := Zs124) (τ := Zs125) rfl).trans ?_
  refine (nxW (σ := Zs123) (τ := Zs124) rfl (by decide)).trans ?_
  refine (nxR (σ := Zs122) (τ := Zs123) rfl).trans ?_
  refine (nxW (σ := Zs121) (τ := Zs122) rfl (by decide)).trans ?_
  refine (nxR (σ := Zs120) (τ := Zs121) rfl).trans ?_
  refine (nxW (σ := Zs119) (τ := Zs120) rfl (by decide)).trans ?_
  refine (nxR (σ := Zs118) (τ := Zs119) rfl).trans ?_
  refine (nxW (σ := Zs117) (τ := Zs118) rfl (by decide)).trans ?_
  refine (nxW (σ := Zs116) (τ := Zs117) rfl (by decide)).trans ?_
  refine (nxW (σ := Zs115) (τ := Zs116) rfl (by decide)).trans ?_
  refine (nxR (σ := Zs114) (τ := Zs115) rfl).trans ?_
  refine (nxI (σ := (sI (sI Zs113 (nx Zs90) 2 (-1 : Int32)) (nx Zs90) 3 (-1 : Int32))) (τ := Zs114) rfl (by decide +kernel)).trans ?_
  refine (gI_sI_row (by decide +kernel)).trans ?_
  refine (gI_sI_row (by decide +kernel)).trans ?_
  refine (nxR (σ := Zs112) (τ := Zs113) rfl).trans ?_
  refine (nxW (σ := Zs111) (τ := Zs112) rfl (by decide)).trans ?_
  refine (nxR (σ := Zs110) (τ := Zs111) rfl).trans ?_
  refine (nxR (σ := Zs109) (τ := Zs110) rfl).trans ?_
  refine (nxW (σ := Zs108) (τ := Zs109) rfl (by decide)).trans ?_
  refine (nxR (σ := Zs107) (τ := Zs108) rfl).trans ?_
  refine (nxW (σ := Zs106) (τ := Zs107) rfl (by decide)).trans ?_
  refine (nxR (σ := Zs105) (τ := Zs106) rfl).trans ?_
  refine (nxW (σ := Zs104) (τ := Zs105) rfl (by decide)).trans ?_
  refine (nxR (σ := Zs103) (τ := Zs104) rfl).trans ?_
  refine (nxW (σ := Zs102) (τ := Zs103) rfl (by decide)).trans ?_
  refine (nxR (σ := Zs101) (τ := Zs102) rfl).trans ?_
  refine (nxW (σ := Zs100) (τ := Zs101) rfl (by decide)).trans ?_
  refine (nxR (σ := Zs99) (τ := Zs100) rfl).trans ?_
  refine (nxW (σ := Zs98) (τ := Zs99) rfl (by decide)).trans ?_
  refine (nxR (σ := Zs97) (τ := Zs98) rfl).trans ?_
  refine (nxW (σ := Zs96) (τ := Zs97) rfl (by decide)).trans ?_
  refine (nxR (σ := Zs95) (τ := Zs96) rfl).trans ?_
  refine (nxW (σ := Zs94) (τ := Zs95) rfl (by decide)).trans ?_
  refine (nxR (σ := Zs93) (τ := Zs94) rfl).trans ?_
  refine (nxW (σ := Zs92) (τ := Zs93) rfl (by decide)).trans ?_
  refine (nxW (σ := Zs91) (τ := Zs92) rfl (by decide)).trans ?_
  refine (nxW (σ := Zs90) (τ := Zs91) rfl (by decide)).trans ?_
  refine (nxR (σ := Zs89) (τ := Zs90) rfl).trans ?_
  refine (nxR (σ := Zs88) (τ := Zs89) rfl).trans ?_
  refine (nxR (σ := Zs87) (τ := Zs88) rfl).trans ?_
  refine (nxR (σ := Zs86) (τ := Zs87) rfl).trans ?_
  refine (nxW (σ := Zs85) (τ := Zs86) rfl (by decide)).trans ?_
  refine (nxR (σ := Zs84) (τ := Zs85) rfl).trans ?_
  refine (nxW (σ := Zs83) (τ := Zs84) rfl (by decide)).trans ?_
  refine (nxR (σ := Zs82) (τ := Zs83) rfl).trans ?_
  refine (nxW (σ := Zs81) (τ := Zs82) rfl (by decide)).trans ?_
  refine (nxR (σ := Zs80) (τ := Zs81) rfl).trans ?_
  refine (nxW (σ := Zs79) (τ := Zs80) rfl (by decide)).trans ?_
  refine (nxR (σ := Zs78) (τ := Zs79) rfl).trans ?_
  refine (nxW (σ := Zs77) (τ := Zs78) rfl (by decide)).trans ?_
  refine (nxR (σ := Zs76) (τ := Zs77) rfl).trans ?_
  refine (nxW (σ := Zs75) (τ := Zs76) rfl (by decide)).trans ?_
  refine (nxR (σ := Zs74) (τ := Zs75) rfl).trans ?_
  refine (nxW (σ := Zs73) (τ := Zs74) rfl (by decide)).trans ?_
  refine (nxR (σ := Zs72) (τ := Zs73) rfl).trans ?_
  refine (nxW (σ := Zs71) (τ := Zs72) rfl (by decide)).trans ?_
  refine (nxR (σ := Zs70) (τ := Zs71) rfl).trans ?_
  refine (nxW (σ := (sI (sI (sI Zs69 (nx Zs68) 2 (-1 : Int32)) (nx Zs68) 3 (-1 : Int32)) (nx Zs68) 4 (-1 : Int32))) (τ := Zs70) rfl (by decide)).trans ?_
  refine (gI_sI_row (by decide +kernel)).trans ?_
  refine (gI_sI_row (by decide +kernel)).trans ?_
  refine (gI_sI_row (by decide +kernel)).trans ?_
  refine (nxW (σ := Zs68) (τ := Zs69) rfl (by decide)).trans ?_
  refine (nxR (σ := Zs67) (τ := Zs68) rfl).trans ?_
  refine (nxA (σ := Zs66) (τ := Zs67) rfl (by decide +kernel)).trans ?_
  refine (nxR (σ := (sI Zs65 (nx Zs54) 6 (-1 : Int32))) (τ := Zs66) rfl).trans ?_
  refine (gI_sI_row (by decide +kernel)).trans ?_
  refine (nxR (σ := Zs64) (τ := Zs65) rfl).trans ?_
  refine (nxW (σ := Zs63) (τ := Zs64) rfl (by decide)).trans ?_
  refine (nxR (σ := Zs62) (τ := Zs63) rfl).trans ?_
  refine (nxW (σ := Zs61) (τ := Zs62) rfl (by decide)).trans ?_
  refine (nxR (σ := Zs60) (τ := Zs61) rfl).trans ?_
  refine (nxW (σ := Zs59) (τ := Zs60) rfl (by decide)).trans ?_
  refine (nxR (σ := Zs58) (τ := Zs59) rfl).trans ?_
  refine (nxW (σ := Zs57) (τ := Zs58) rfl (by decide)).trans ?_
  refine (nxR (σ := Zs56) (τ := Zs57) rfl).trans ?_
  refine (nxW (σ := Zs55) (τ := Zs56) rfl (by decide)).trans ?_
  refine (nxW (σ := Zs54) (τ := Zs55) rfl (by decide)).trans ?_
  refine (nxR (σ := Zs53) (τ := Zs54) rfl).trans ?_
  refine (nxR (σ := Zs52) (τ := Zs53) rfl).trans ?_
  refine (nxW (σ := Zs51) (τ := Zs52) rfl (by decide)).trans ?_
  refine (nxR (σ := Zs50) (τ := Zs51) rfl).trans ?_
  refine (nxW (σ := Zs49) (τ := Zs50) rfl (by decide)).trans ?_
  refine (nxR (σ := Zs48) (τ := Zs49) rfl).trans ?_
  refine (nxW (σ := Zs47) (τ := Zs48) rfl (by decide)).trans ?_
  refine (nxR (σ := Zs46) (τ := Zs47) rfl).trans ?_
  refine (nxW (σ := Zs45) (τ := Zs46) rfl (by decide)).trans ?_
  refine (nxR (σ := Zs44) (τ := Zs45) rfl).trans ?_
  refine (nxW (σ := Zs43) (τ := Zs44) rfl (by decide)).trans ?_
  refine (nxW (σ := Zs42) (τ := Zs43) rfl (by decide)).trans ?_
  refine (nxR (σ := Zs41) (τ := Zs42) rfl).trans ?_
  refine (nxW (σ := Zs40) (τ := Zs41) rfl (by decide)).trans ?_
  refine (nxR (σ := Zs39) (τ := Zs40) rfl).trans ?_
  refine (nxR (σ := Zs38) (τ := Zs39) rfl).trans ?_
  exact nxC (τ := Zs38) rfl
theorem zSh : Sh Zend := ⟨by decide +kernel, by decide +kernel, by decide +kernel⟩
theorem zRm : sl Zend ≤ 1300000 ∧ nx Zend = 166 := by decide +kernel
theorem z_ts : ∀ j, j < 8 → TsI Zend (1 + 2 + 2 * j) (wdJ j) (msJ j) (4 + 2 * j) (min (msJ j) 8 * wdJ j) := by unfold TsI; decide +kernel
theorem z_t3 : ∀ j, j < 8 → gI Zend (1 + 2 + 2 * j) 3 = 0 := by decide +kernel
theorem z_m8 : ∀ j, j < 8 → min (msJ j) 8 ∈ chT (msJ j) := by decide +kernel
theorem z_ac : ∀ a, a < 24 → gR Zend 2 a = none := by decide +kernel
theorem z_tg : ∀ i, i < 120 → gI Zend 19 i = 0 := by decide +kernel
theorem z_im : ∀ k, k < 3 → gR Zend 21 k = none ∧ gI Zend 127 k = 0 := by decide +kernel
theorem z_29 : ∀ h, h < 63 → gI Zend 29 h = -1 := by decide +kernel
theorem z_o1 : (kd Zend 1 = (9, NO 9) ∧ 1 + 20 ≤ nx Zend) ∧ (gR Zend 1 0 = some (1 + 1) ∧ gR Zend 1 10 = some (1 + 18) ∧ gR Zend 1 11 = some (1 + 19) ∧ ∀ j, j < 8 → gR Zend 1 (2 + j) = some (1 + 2 + 2 * j)) ∧ (kd Zend (1 + 1) = (103, 24) ∧ kd Zend (1 + 18) = (100, 120) ∧ kd Zend (1 + 19) = (100, 2400)) := by decide +kernel
theorem z_i1 : gI Zend 1 1 = 0 ∧ gI Zend 1 12 = 0 ∧ gI Zend 1 13 = 0 ∧ gI Zend 1 14 = 0 ∧ gI Zend 1 15 = 0 := by decide +kernel
theorem z_in : (gI Zend 124 50 = 0 ∧ gI Zend 68 11 = 0 ∧ gI Zend 68 13 = -1) ∧ gI Zend 124 1 = gI Zend 0 10 ∧ gI Zend 124 11 = gI Zend 0 11 := by decide +kernel
theorem z_cc : gI Zend 28 6 = -1 ∧ (gI Zend 34 4 ≤ gI Zend 0 12 ∧ gI Zend 34 4 ≠ gI Zend 0 12) ∧ (gI Zend 44 4 ≤ gI Zend 0 12 ∧ gI Zend 44 4 ≠ gI Zend 0 12) ∧ (gI Zend 56 4 ≤ gI Zend 0 12 ∧ gI Zend 56 4 ≠ gI Zend 0 12) ∧ (gI Zend 68 7 ≤ gI Zend 0 12 ∧ gI Zend 68 7 ≠ gI Zend 0 12) ∧ gI Zend 113 4 ≤ gI Zend 0 13 ∧ gI Zend 113 4 ≠ gI Zend 0 13 := by decide +kernel
theorem z_nu : gI Zend 68 3 = 0 ∧ gI Zend 22 1 = 0 ∧ gI Zend 0 12 = 0 ∧ gI Zend 0 13 = 0 ∧ gI Zend 124 48 = 0 ∧ gI Zend 124 6 = 0 := by decide +kernel
def Zr : Nat → Int32 := fun _ => 0
theorem cl0 : cl (0 : Int32) = 0 := by decide
theorem zlt {x : Nat} (h : x < cl (0 : Int32)) : False := by rw [cl0] at h; exact Nat.not_lt_zero x h
theorem isz {n : Nat} (h : 0 < n) : isN (0 : Int32) n := ⟨by rw [cl0]; rfl, by rw [cl0]; exact h⟩
theorem tz {nb B wd mst : Nat} {Q : (Nat → Int32) → Prop} : tbP Zr nb B wd mst Q := ⟨isz (Nat.succ_pos _), fun _ hd => (zlt hd).elim⟩
theorem zRw : RwV Zr (fun _ _ => none) 0 0 0 0 :=
  ⟨⟨⟨by show (0 : Int32) = nI (cl 0); rw [cl0]; rfl, by show cl (0 : Int32) ≤ 24; rw [cl0]; exact Nat.zero_le _, fun _ ha => (zlt ha).elim⟩, fun _ ha => (zlt ha).elim, fun _ ha => (zlt ha).elim⟩, BV_tb.mpr ⟨tz, tz, tz, tz, tz⟩, EV_tb.mpr tz, ⟨fun _ _ => isz (by decide), fun _ _ => ⟨isz (by decide), isz (by decide)⟩⟩, LV_tb.mpr tz, ⟨⟨isz (by decide), fun _ hs => (zlt hs).elim⟩, fun _ hp => (zlt hp).elim, fun _ hs => (zlt hs).elim, rfl, by decide⟩, ⟨rfl, Nat.zero_le _⟩, ⟨rfl, Nat.zero_le _⟩, rfl, by show cl (0 : Int32) ≤ _; rw [cl0]; exact Nat.zero_le _⟩
theorem okz {p : Nat} (h : okP Zr p = true) : False := by
  unfold okP at h
  exact zlt (of_decide_eq_true h).1
theorem zLw : LwI Zr Zend := by
  refine ⟨⟨by rw [z_i1.1]; show (0 : Int32) = nI (cl 0); rw [cl0]; rfl, fun _ ha => (zlt ha).elim⟩, Or.inl z_cc.1, fun h hh => ?_, fun p _ ok => (okz ok).elim⟩
  rw [z_29 h hh]
  cases e : prv Zr h 384 with
  | none => rfl
  | some q => exact (okz (prv_lt _ _ e).2.1).elim
theorem inv0 : Inv 0 Zend := by
  have gt : ∀ j, j < 8 → TbG Zend (1 + 2 + 2 * j) (wdJ j) (msJ j) (nJ Zr 0 j) (CJ Zr (fun _ _ => 0) j) := fun j hj => by
    have e : nJ Zr 0 j = 0 := by
      unfold nJ
      by_cases z : j = 7
      · rw [if_pos z]
      · rw [if_neg z]; exact cl0
    rw [e]
    obtain ⟨t1, ⟨t2, t3⟩, t4, t5⟩ := z_ts j hj
    exact ⟨t1, ⟨t2, t3, z_t3 j hj, Nat.zero_le _⟩, 4 + 2 * j, min (msJ j) 8 * wdJ j, t4, t5, ⟨by rw [Nat.zero_mul]; exact Nat.zero_le _, Nat.mul_le_mul_right _ (Nat.min_le_left _ _)⟩, Or.inl (by omega), fun s _ hs => absurd hs (Nat.not_lt_zero s)⟩
  have nx166 : nx Zend = 166 := zRm.2
  refine ⟨zSh, ⟨Nat.le_trans zRm.1 (by omega), by rw [nx166]; omega⟩, ⟨Or.inl z_in.1, z_in.2.1, z_in.2.2⟩, fun _ => 0, Zr, fun _ _ => none, 0, 0, 0, 0, 0, fun _ _ => 0, 0, fun _ => 0, 0, fun _ => 0, zRw, ⟨fun s hs => absurd hs (Nat.not_lt_zero s), fun _ hp => (zlt hp).elim, fun s hs => absurd hs (Nat.not_lt_zero s), fun s hs => absurd hs (Nat.not_lt_zero s)⟩, ⟨Nat.zero_le _, fun i hi => absurd hi (Nat.not_lt_zero i), fun i _ hi => absurd hi (Nat.not_lt_zero i), fun i hi => absurd hi (Nat.not_lt_zero i)⟩, ⟨⟨⟨z_o1.1, z_o1.2.1, z_o1.2.2, fun j hj => ⟨_, _, z_ts j hj, z_m8 j hj⟩⟩, ⟨⟨zLw.1.1, fun _ ha => (zlt ha).elim, fun a b ha hb => by rw [show gR Zend (1 + 1) a = none from z_ac a ha] at hb; cases hb⟩, gt, ⟨fun i hi => z_tg i hi, fun i _ => ?_⟩, z_i1.2.1, z_i1.2.2.1, z_i1.2.2.2.1, z_i1.2.2.2.2⟩, ⟨Or.inl rfl, ⟨by omega, by omega⟩, fun j hj => ⟨4 + 2 * j, (z_ts j hj).2.2.1, by omega, Or.inl (by omega)⟩, fun a b ha hb => by rw [show gR Zend (1 + 1) a = none from z_ac a ha] at hb; cases hb⟩⟩, ⟨zLw, ⟨z_cc.2.1.1, fun e => absurd e z_cc.2.1.2⟩, ⟨z_cc.2.2.1.1, fun e => absurd e z_cc.2.2.1.2⟩, ⟨z_cc.2.2.2.1.1, fun e => absurd e z_cc.2.2.2.1.2⟩, ⟨z_cc.2.2.2.2.1.1, fun e => absurd e z_cc.2.2.2.2.1.2⟩, ⟨z_cc.2.2.2.2.2.1, fun e => absurd e z_cc.2.2.2.2.2.2⟩⟩, ⟨z_nu.1, fun i hi => absurd hi (Nat.not_lt_zero i)⟩, TpC.nil z_nu.2.1, ⟨0, Nat.le_refl _, z_nu.2.2.1⟩, 0, Nat.le_refl _, z_nu.2.2.2.1⟩, ⟨z125, ⟨z_nu.2.2.2.2.1, fun i hi => absurd hi (Nat.not_lt_zero i)⟩, TpR.nil z_nu.2.2.2.2.2⟩, fun k hk => Or.inl (z_im k hk), fun k l o p hk _ _ h1 _ => by rw [(z_im k hk).1] at h1; cases h1⟩
  show gI Zend 20 i = _
  rw [z20]
  show (0 : Int32) = nI ((cl 0 - 1) + 65536 * cl 0)
  rw [cl0]; rfl
end
