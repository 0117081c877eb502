noncomputable def nAbout (P : Pg) (w : Nat) : Int := if w < 6 then gE P w else if w = 6 then gS P else if w = 7 then gB P else if w = 8 then nPits P (gS P) else nHolds P (gS P)
