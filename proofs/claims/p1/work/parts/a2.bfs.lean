/-- moves on a fresh field as bits: for each move and heading, the cells it can be driven from, and how far it leads (up, down) -/
def mvT (m g : Nat) : Nat × Nat × Nat := match m, g with
  | 0, 0 => (28944930279785060096573432157050817219077880350843422905232229209088775307262, 1, 0)
  | 0, 1 => (6739266747558736264839170537202343628527103073625690980169975463936, 17, 0)
  | 0, 2 => (26959946667150639794667015087019630673637144422540572481103610183680, 16, 0)
  | 0, 3 => (13478533495117472529678341074404687257054206147251381960339950927872, 15, 0)
  | 0, 4 => (57889860559570120193146864314101634438155760701686845810464458418177550614524, 0, 1)
  | 0, 5 => (883329171136018679704999760652185584078304454066266568152839024009019392, 0, 17)
  | 0, 6 => (1766847064778384329583297500742918515827483896875618958121606196997652480, 0, 16)
  | 0, 7 => (441664585568009339852499880326092792039152227033133284076419512004509696, 0, 15)
  | 1, 0 => (220805332425955102758635943100396774923736829410411524635934306148024320, 1778, 0)
  | 1, 1 => (3369221991362840313089537705999706648616589804236015695738743685120, 0, 238)
  | 1, 2 => (102833049736919193494250038714635370308335923364649825747206144, 0, 223)
  | 1, 3 => (205666099473838386988500077429270740616671846729299651494412288, 0, 225)
  | 1, 4 => (13476887965451361252358150823998826594466359216944062782954974740480, 0, 242)
  | 1, 5 => (883221329703820411034543772401587099694947317641646098543737224592097280, 0, 274)
  | 1, 6 => (883329171136018679704999760652185584078304454066266568152698303700533248, 0, 289)
  | 1, 7 => (441664585568009339852499880326092792039152227033133284076349151850266624, 0, 287)
  | 2, 0 => (3369221991362840313089537705999706648616589804236015695738743685120, 274, 0)
  | 2, 1 => (102833049736919193494250038714635370308335923364649825747206144, 289, 0)
  | 2, 2 => (205666099473838386988500077429270740616671846729299651494412288, 287, 0)
  | 2, 3 => (13476887965451361252358150823998826594466359216944062782954974740480, 270, 0)
  | 2, 4 => (883221329703820411034543772401587099694947317641646098543737224592097280, 238, 0)
  | 2, 5 => (883329171136018679704999760652185584078304454066266568152698303700533248, 223, 0)
  | 2, 6 => (441664585568009339852499880326092792039152227033133284076349151850266624, 225, 0)
  | 2, 7 => (220805332425955102758635943100396774923736829410411524635934306148024320, 0, 1806)
  | 3, 0 => (57889860559570120193146864314101634438155760701686845810464458418177550614524, 0, 1)
  | 3, 1 => (883329171136018679704999760652185584078304454066266568152839024009019392, 0, 17)
  | 3, 2 => (1766847064778384329583297500742918515827483896875618958121606196997652480, 0, 16)
  | 3, 3 => (441664585568009339852499880326092792039152227033133284076419512004509696, 0, 15)
  | 3, 4 => (28944930279785060096573432157050817219077880350843422905232229209088775307262, 1, 0)
  | 3, 5 => (6739266747558736264839170537202343628527103073625690980169975463936, 17, 0)
  | 3, 6 => (26959946667150639794667015087019630673637144422540572481103610183680, 16, 0)
  | 3, 7 => (13478533495117472529678341074404687257054206147251381960339950927872, 15, 0)
  | 4, 0 => (883221329703820411034543772401587099694947317641646098543737224592097280, 238, 0)
  | 4, 1 => (883329171136018679704999760652185584078304454066266568152698303700533248, 223, 0)
  | 4, 2 => (441664585568009339852499880326092792039152227033133284076349151850266624, 225, 0)
  | 4, 3 => (220805332425955102758635943100396774923736829410411524635934306148024320, 242, 0)
  | 4, 4 => (3369221991362840313089537705999706648616589804236015695738743685120, 274, 0)
  | 4, 5 => (102833049736919193494250038714635370308335923364649825747206144, 289, 0)
  | 4, 6 => (205666099473838386988500077429270740616671846729299651494412288, 287, 0)
  | 4, 7 => (13476887965451361252358150823998826594466359216944062782954974740480, 0, 1778)
  | 5, 0 => (13476887965451361252358150823998826594466359216944062782954974740480, 1806, 0)
  | 5, 1 => (883221329703820411034543772401587099694947317641646098543737224592097280, 0, 274)
  | 5, 2 => (883329171136018679704999760652185584078304454066266568152698303700533248, 0, 289)
  | 5, 3 => (441664585568009339852499880326092792039152227033133284076349151850266624, 0, 287)
  | 5, 4 => (220805332425955102758635943100396774923736829410411524635934306148024320, 0, 270)
  | 5, 5 => (3369221991362840313089537705999706648616589804236015695738743685120, 0, 238)
  | 5, 6 => (102833049736919193494250038714635370308335923364649825747206144, 0, 223)
  | 5, 7 => (205666099473838386988500077429270740616671846729299651494412288, 0, 225)
  | _, _ => (0, 0, 0)
def frc (n : Nat) (f : Nat → Bool) : Bool := match n with
  | 0 => f 0
  | m + 1 => f (m + 1)
theorem frc_eq (n : Nat) (f : Nat → Bool) : frc n f = f n := by cases n <;> rfl
def stB1 (S : Nat) (e : Nat × Nat × Nat) (g : Nat) : Nat := (((S >>> (256 * g)) &&& e.1) <<< (256 * g + e.2.1)) >>> e.2.2
def stG (S m : Nat) : Nat → Nat → Nat
  | 0, a => a
  | g + 1, a => stG S m g (a ||| stB1 S (mvT m g) g)
def stM (S : Nat) : Nat → Nat → Nat
  | 0, a => a
  | m + 1, a => stM S m (stG S m 8 a)
def bfs (mv : Nat) : Nat → Nat → Bool
  | 0, S => frc (stM S mv S) fun T => Nat.beq T S
  | k + 1, S => frc (stM S mv S) fun T => Nat.beq T S || bfs mv k T
theorem lor_nat (a b : Nat) : a ||| b = Nat.lor a b := rfl
theorem bt_0_0 (S : Nat) : stB1 S (mvT 0 0) 0 = (Nat.shiftRight (Nat.shiftLeft (Nat.land (Nat.shiftRight S 0) 28944930279785060096573432157050817219077880350843422905232229209088775307262) 1) 0) := rfl
theorem bt_0_1 (S : Nat) : stB1 S (mvT 0 1) 1 = (Nat.shiftRight (Nat.shiftLeft (Nat.land (Nat.shiftRight S 256) 6739266747558736264839170537202343628527103073625690980169975463936) 273) 0) := rfl
theorem bt_0_2 (S : Nat) : stB1 S (mvT 0 2) 2 = (Nat.shiftRight (Nat.shiftLeft (Nat.land (Nat.shiftRight S 512) 26959946667150639794667015087019630673637144422540572481103610183680) 528) 0) := rfl
theorem bt_0_3 (S : Nat) : stB1 S (mvT 0 3) 3 = (Nat.shiftRight (Nat.shiftLeft (Nat.land (Nat.shiftRight S 768) 13478533495117472529678341074404687257054206147251381960339950927872) 783) 0) := rfl
theorem bt_0_4 (S : Nat) : stB1 S (mvT 0 4) 4 = (Nat.shiftRight (Nat.shiftLeft (Nat.land (Nat.shiftRight S 1024) 57889860559570120193146864314101634438155760701686845810464458418177550614524) 1024) 1) := rfl
theorem bt_0_5 (S : Nat) : stB1 S (mvT 0 5) 5 = (Nat.shiftRight (Nat.shiftLeft (Nat.land (Nat.shiftRight S 1280) 883329171136018679704999760652185584078304454066266568152839024009019392) 1280) 17) := rfl
theorem bt_0_6 (S : Nat) : stB1 S (mvT 0 6) 6 = (Nat.shiftRight (Nat.shiftLeft (Nat.land (Nat.shiftRight S 1536) 1766847064778384329583297500742918515827483896875618958121606196997652480) 1536) 16) := rfl
theorem bt_0_7 (S : Nat) : stB1 S (mvT 0 7) 7 = (Nat.shiftRight (Nat.shiftLeft (Nat.land (Nat.shiftRight S 1792) 441664585568009339852499880326092792039152227033133284076419512004509696) 1792) 15) := rfl
theorem bt_1_0 (S : Nat) : stB1 S (mvT 1 0) 0 = (Nat.shiftRight (Nat.shiftLeft (Nat.land (Nat.shiftRight S 0) 220805332425955102758635943100396774923736829410411524635934306148024320) 1778) 0) := rfl
theorem bt_1_1 (S : Nat) : stB1 S (mvT 1 1) 1 = (Nat.shiftRight (Nat.shiftLeft (Nat.land (Nat.shiftRight S 256) 3369221991362840313089537705999706648616589804236015695738743685120) 256) 238) := rfl
theorem bt_1_2 (S : Nat) : stB1 S (mvT 1 2) 2 = (Nat.shiftRight (Nat.shiftLeft (Nat.land (Nat.shiftRight S 512) 102833049736919193494250038714635370308335923364649825747206144) 512) 223) := rfl
theorem bt_1_3 (S : Nat) : stB1 S (mvT 1 3) 3 = (Nat.shiftRight (Nat.shiftLeft (Nat.land (Nat.shiftRight S 768) 205666099473838386988500077429270740616671846729299651494412288) 768) 225) := rfl
theorem bt_1_4 (S : Nat) : stB1 S (mvT 1 4) 4 = (Nat.shiftRight (Nat.shiftLeft (Nat.land (Nat.shiftRight S 1024) 13476887965451361252358150823998826594466359216944062782954974740480) 1024) 242) := rfl
theorem bt_1_5 (S : Nat) : stB1 S (mvT 1 5) 5 = (Nat.shiftRight (Nat.shiftLeft (Nat.land (Nat.shiftRight S 1280) 883221329703820411034543772401587099694947317641646098543737224592097280) 1280) 274) := rfl
theorem bt_1_6 (S : Nat) : stB1 S (mvT 1 6) 6 = (Nat.shiftRight (Nat.shiftLeft (Nat.land (Nat.shiftRight S 1536) 883329171136018679704999760652185584078304454066266568152698303700533248) 1536) 289) := rfl
theorem bt_1_7 (S : Nat) : stB1 S (mvT 1 7) 7 = (Nat.shiftRight (Nat.shiftLeft (Nat.land (Nat.shiftRight S 1792) 441664585568009339852499880326092792039152227033133284076349151850266624) 1792) 287) := rfl
theorem bt_2_0 (S : Nat) : stB1 S (mvT 2 0) 0 = (Nat.shiftRight (Nat.shiftLeft (Nat.land (Nat.shiftRight S 0) 3369221991362840313089537705999706648616589804236015695738743685120) 274) 0) := rfl
theorem bt_2_1 (S : Nat) : stB1 S (mvT 2 1) 1 = (Nat.shiftRight (Nat.shiftLeft (Nat.land (Nat.shiftRight S 256) 102833049736919193494250038714635370308335923364649825747206144) 545) 0) := rfl
theorem bt_2_2 (S : Nat) : stB1 S (mvT 2 2) 2 = (Nat.shiftRight (Nat.shiftLeft (Nat.land (Nat.shiftRight S 512) 205666099473838386988500077429270740616671846729299651494412288) 799) 0) := rfl
theorem bt_2_3 (S : Nat) : stB1 S (mvT 2 3) 3 = (Nat.shiftRight (Nat.shiftLeft (Nat.land (Nat.shiftRight S 768) 13476887965451361252358150823998826594466359216944062782954974740480) 1038) 0) := rfl
theorem bt_2_4 (S : Nat) : stB1 S (mvT 2 4) 4 = (Nat.shiftRight (Nat.shiftLeft (Nat.land (Nat.shiftRight S 1024) 883221329703820411034543772401587099694947317641646098543737224592097280) 1262) 0) := rfl
theorem bt_2_5 (S : Nat) : stB1 S (mvT 2 5) 5 = (Nat.shiftRight (Nat.shiftLeft (Nat.land (Nat.shiftRight S 1280) 883329171136018679704999760652185584078304454066266568152698303700533248) 1503) 0) := rfl
theorem bt_2_6 (S : Nat) : stB1 S (mvT 2 6) 6 = (Nat.shiftRight (Nat.shiftLeft (Nat.land (Nat.shiftRight S 1536) 441664585568009339852499880326092792039152227033133284076349151850266624) 1761) 0) := rfl
theorem bt_2_7 (S : Nat) : stB1 S (mvT 2 7) 7 = (Nat.shiftRight (Nat.shiftLeft (Nat.land (Nat.shiftRight S 1792) 220805332425955102758635943100396774923736829410411524635934306148024320) 1792) 1806) := rfl
theorem bt_3_0 (S : Nat) : stB1 S (mvT 3 0) 0 = (Nat.shiftRight (Nat.shiftLeft (Nat.land (Nat.shiftRight S 0) 57889860559570120193146864314101634438155760701686845810464458418177550614524) 0) 1) := rfl
theorem bt_3_1 (S : Nat) : stB1 S (mvT 3 1) 1 = (Nat.shiftRight (Nat.shiftLeft (Nat.land (Nat.shiftRight S 256) 883329171136018679704999760652185584078304454066266568152839024009019392) 256) 17) := rfl
theorem bt_3_2 (S : Nat) : stB1 S (mvT 3 2) 2 = (Nat.shiftRight (Nat.shiftLeft (Nat.land (Nat.shiftRight S 512) 1766847064778384329583297500742918515827483896875618958121606196997652480) 512) 16) := rfl
theorem bt_3_3 (S : Nat) : stB1 S (mvT 3 3) 3 = (Nat.shiftRight (Nat.shiftLeft (Nat.land (Nat.shiftRight S 768) 441664585568009339852499880326092792039152227033133284076419512004509696) 768) 15) := rfl
theorem bt_3_4 (S : Nat) : stB1 S (mvT 3 4) 4 = (Nat.shiftRight (Nat.shiftLeft (Nat.land (Nat.shiftRight S 1024) 28944930279785060096573432157050817219077880350843422905232229209088775307262) 1025) 0) := rfl
theorem bt_3_5 (S : Nat) : stB1 S (mvT 3 5) 5 = (Nat.shiftRight (Nat.shiftLeft (Nat.land (Nat.shiftRight S 1280) 6739266747558736264839170537202343628527103073625690980169975463936) 1297) 0) := rfl
theorem bt_3_6 (S : Nat) : stB1 S (mvT 3 6) 6 = (Nat.shiftRight (Nat.shiftLeft (Nat.land (Nat.shiftRight S 1536) 26959946667150639794667015087019630673637144422540572481103610183680) 1552) 0) := rfl
theorem bt_3_7 (S : Nat) : stB1 S (mvT 3 7) 7 = (Nat.shiftRight (Nat.shiftLeft (Nat.land (Nat.shiftRight S 1792) 13478533495117472529678341074404687257054206147251381960339950927872) 1807) 0) := rfl
theorem bt_4_0 (S : Nat) : stB1 S (mvT 4 0) 0 = (Nat.shiftRight (Nat.shiftLeft (Nat.land (Nat.shiftRight S 0) 883221329703820411034543772401587099694947317641646098543737224592097280) 238) 0) := rfl
theorem bt_4_1 (S : Nat) : stB1 S (mvT 4 1) 1 = (Nat.shiftRight (Nat.shiftLeft (Nat.land (Nat.shiftRight S 256) 883329171136018679704999760652185584078304454066266568152698303700533248) 479) 0) := rfl
theorem bt_4_2 (S : Nat) : stB1 S (mvT 4 2) 2 = (Nat.shiftRight (Nat.shiftLeft (Nat.land (Nat.shiftRight S 512) 441664585568009339852499880326092792039152227033133284076349151850266624) 737) 0) := rfl
theorem bt_4_3 (S : Nat) : stB1 S (mvT 4 3) 3 = (Nat.shiftRight (Nat.shiftLeft (Nat.land (Nat.shiftRight S 768) 220805332425955102758635943100396774923736829410411524635934306148024320) 1010) 0) := rfl
theorem bt_4_4 (S : Nat) : stB1 S (mvT 4 4) 4 = (Nat.shiftRight (Nat.shiftLeft (Nat.land (Nat.shiftRight S 1024) 3369221991362840313089537705999706648616589804236015695738743685120) 1298) 0) := rfl
theorem bt_4_5 (S : Nat) : stB1 S (mvT 4 5) 5 = (Nat.shiftRight (Nat.shiftLeft (Nat.land (Nat.shiftRight S 1280) 102833049736919193494250038714635370308335923364649825747206144) 1569) 0) := rfl
theorem bt_4_6 (S : Nat) : stB1 S (mvT 4 6) 6 = (Nat.shiftRight (Nat.shiftLeft (Nat.land (Nat.shiftRight S 1536) 205666099473838386988500077429270740616671846729299651494412288) 1823) 0) := rfl
theorem bt_4_7 (S : Nat) : stB1 S (mvT 4 7) 7 = (Nat.shiftRight (Nat.shiftLeft (Nat.land (Nat.shiftRight S 1792) 13476887965451361252358150823998826594466359216944062782954974740480) 1792) 1778) := rfl
theorem bt_5_0 (S : Nat) : stB1 S (mvT 5 0) 0 = (Nat.shiftRight (Nat.shiftLeft (Nat.land (Nat.shiftRight S 0) 13476887965451361252358150823998826594466359216944062782954974740480) 1806) 0) := rfl
theorem bt_5_1 (S : Nat) : stB1 S (mvT 5 1) 1 = (Nat.shiftRight (Nat.shiftLeft (Nat.land (Nat.shiftRight S 256) 883221329703820411034543772401587099694947317641646098543737224592097280) 256) 274) := rfl
theorem bt_5_2 (S : Nat) : stB1 S (mvT 5 2) 2 = (Nat.shiftRight (Nat.shiftLeft (Nat.land (Nat.shiftRight S 512) 883329171136018679704999760652185584078304454066266568152698303700533248) 512) 289) := rfl
theorem bt_5_3 (S : Nat) : stB1 S (mvT 5 3) 3 = (Nat.shiftRight (Nat.shiftLeft (Nat.land (Nat.shiftRight S 768) 441664585568009339852499880326092792039152227033133284076349151850266624) 768) 287) := rfl
theorem bt_5_4 (S : Nat) : stB1 S (mvT 5 4) 4 = (Nat.shiftRight (Nat.shiftLeft (Nat.land (Nat.shiftRight S 1024) 220805332425955102758635943100396774923736829410411524635934306148024320) 1024) 270) := rfl
theorem bt_5_5 (S : Nat) : stB1 S (mvT 5 5) 5 = (Nat.shiftRight (Nat.shiftLeft (Nat.land (Nat.shiftRight S 1280) 3369221991362840313089537705999706648616589804236015695738743685120) 1280) 238) := rfl
theorem bt_5_6 (S : Nat) : stB1 S (mvT 5 6) 6 = (Nat.shiftRight (Nat.shiftLeft (Nat.land (Nat.shiftRight S 1536) 102833049736919193494250038714635370308335923364649825747206144) 1536) 223) := rfl
theorem bt_5_7 (S : Nat) : stB1 S (mvT 5 7) 7 = (Nat.shiftRight (Nat.shiftLeft (Nat.land (Nat.shiftRight S 1792) 205666099473838386988500077429270740616671846729299651494412288) 1792) 225) := rfl
def nx3 (S : Nat) : Nat := (Nat.lor (Nat.lor (Nat.lor (Nat.lor (Nat.lor (Nat.lor (Nat.lor (Nat.lor (Nat.lor (Nat.lor (Nat.lor (Nat.lor (Nat.lor (Nat.lor (Nat.lor (Nat.lor (Nat.lor (Nat.lor (Nat.lor (Nat.lor (Nat.lor (Nat.lor (Nat.lor (Nat.lor S
    (Nat.shiftRight (Nat.shiftLeft (Nat.land (Nat.shiftRight S 1792) 220805332425955102758635943100396774923736829410411524635934306148024320) 1792) 1806))
    (Nat.shiftRight (Nat.shiftLeft (Nat.land (Nat.shiftRight S 1536) 441664585568009339852499880326092792039152227033133284076349151850266624) 1761) 0))
    (Nat.shiftRight (Nat.shiftLeft (Nat.land (Nat.shiftRight S 1280) 883329171136018679704999760652185584078304454066266568152698303700533248) 1503) 0))
    (Nat.shiftRight (Nat.shiftLeft (Nat.land (Nat.shiftRight S 1024) 883221329703820411034543772401587099694947317641646098543737224592097280) 1262) 0))
    (Nat.shiftRight (Nat.shiftLeft (Nat.land (Nat.shiftRight S 768) 13476887965451361252358150823998826594466359216944062782954974740480) 1038) 0))
    (Nat.shiftRight (Nat.shiftLeft (Nat.land (Nat.shiftRight S 512) 205666099473838386988500077429270740616671846729299651494412288) 799) 0))
    (Nat.shiftRight (Nat.shiftLeft (Nat.land (Nat.shiftRight S 256) 102833049736919193494250038714635370308335923364649825747206144) 545) 0))
    (Nat.shiftRight (Nat.shiftLeft (Nat.land (Nat.shiftRight S 0) 3369221991362840313089537705999706648616589804236015695738743685120) 274) 0))
    (Nat.shiftRight (Nat.shiftLeft (Nat.land (Nat.shiftRight S 1792) 441664585568009339852499880326092792039152227033133284076349151850266624) 1792) 287))
    (Nat.shiftRight (Nat.shiftLeft (Nat.land (Nat.shiftRight S 1536) 883329171136018679704999760652185584078304454066266568152698303700533248) 1536) 289))
    (Nat.shiftRight (Nat.shiftLeft (Nat.land (Nat.shiftRight S 1280) 883221329703820411034543772401587099694947317641646098543737224592097280) 1280) 274))
    (Nat.shiftRight (Nat.shiftLeft (Nat.land (Nat.shiftRight S 1024) 13476887965451361252358150823998826594466359216944062782954974740480) 1024) 242))
    (Nat.shiftRight (Nat.shiftLeft (Nat.land (Nat.shiftRight S 768) 205666099473838386988500077429270740616671846729299651494412288) 768) 225))
    (Nat.shiftRight (Nat.shiftLeft (Nat.land (Nat.shiftRight S 512) 102833049736919193494250038714635370308335923364649825747206144) 512) 223))
    (Nat.shiftRight (Nat.shiftLeft (Nat.land (Nat.shiftRight S 256) 3369221991362840313089537705999706648616589804236015695738743685120) 256) 238))
    (Nat.shiftRight (Nat.shiftLeft (Nat.land (Nat.shiftRight S 0) 220805332425955102758635943100396774923736829410411524635934306148024320) 1778) 0))
    (Nat.shiftRight (Nat.shiftLeft (Nat.land (Nat.shiftRight S 1792) 441664585568009339852499880326092792039152227033133284076419512004509696) 1792) 15))
    (Nat.shiftRight (Nat.shiftLeft (Nat.land (Nat.shiftRight S 1536) 1766847064778384329583297500742918515827483896875618958121606196997652480) 1536) 16))
    (Nat.shiftRight (Nat.shiftLeft (Nat.land (Nat.shiftRight S 1280) 883329171136018679704999760652185584078304454066266568152839024009019392) 1280) 17))
    (Nat.shiftRight (Nat.shiftLeft (Nat.land (Nat.shiftRight S 1024) 57889860559570120193146864314101634438155760701686845810464458418177550614524) 1024) 1))
    (Nat.shiftRight (Nat.shiftLeft (Nat.land (Nat.shiftRight S 768) 13478533495117472529678341074404687257054206147251381960339950927872) 783) 0))
    (Nat.shiftRight (Nat.shiftLeft (Nat.land (Nat.shiftRight S 512) 26959946667150639794667015087019630673637144422540572481103610183680) 528) 0))
    (Nat.shiftRight (Nat.shiftLeft (Nat.land (Nat.shiftRight S 256) 6739266747558736264839170537202343628527103073625690980169975463936) 273) 0))
    (Nat.shiftRight (Nat.shiftLeft (Nat.land (Nat.shiftRight S 0) 28944930279785060096573432157050817219077880350843422905232229209088775307262) 1) 0))
theorem nx3_eq (S : Nat) : nx3 S = stM S 3 S := by
  unfold nx3
  simp only [stM, stG, bt_0_0, bt_0_1, bt_0_2, bt_0_3, bt_0_4, bt_0_5, bt_0_6, bt_0_7, bt_1_0, bt_1_1, bt_1_2, bt_1_3, bt_1_4, bt_1_5, bt_1_6, bt_1_7, bt_2_0, bt_2_1, bt_2_2, bt_2_3, bt_2_4, bt_2_5, bt_2_6, bt_2_7, lor_nat]
def bfx3 : Nat → Nat → Bool
  | 0, S => frc (nx3 S) fun T => Nat.beq T S
  | k + 1, S => frc (nx3 S) fun T => Nat.beq T S || bfx3 k T
theorem bfx3_eq : ∀ (k S : Nat), bfx3 k S = bfs 3 k S := by
  intro k
  induction k with
  | zero => intro S; unfold bfx3 bfs; rw [nx3_eq]
  | succ k ih => intro S; unfold bfx3 bfs; rw [nx3_eq]; simp only [ih]
def nx6 (S : Nat) : Nat := (Nat.lor (Nat.lor (Nat.lor (Nat.lor (Nat.lor (Nat.lor (Nat.lor (Nat.lor (Nat.lor (Nat.lor (Nat.lor (Nat.lor (Nat.lor (Nat.lor (Nat.lor (Nat.lor (Nat.lor (Nat.lor (Nat.lor (Nat.lor (Nat.lor (Nat.lor (Nat.lor (Nat.lor (Nat.lor (Nat.lor (Nat.lor (Nat.lor (Nat.lor (Nat.lor (Nat.lor (Nat.lor (Nat.lor (Nat.lor (Nat.lor (Nat.lor (Nat.lor (Nat.lor (Nat.lor (Nat.lor (Nat.lor (Nat.lor (Nat.lor (Nat.lor (Nat.lor (Nat.lor (Nat.lor (Nat.lor S
    (Nat.shiftRight (Nat.shiftLeft (Nat.land (Nat.shiftRight S 1792) 205666099473838386988500077429270740616671846729299651494412288) 1792) 225))
    (Nat.shiftRight (Nat.shiftLeft (Nat.land (Nat.shiftRight S 1536) 102833049736919193494250038714635370308335923364649825747206144) 1536) 223))
    (Nat.shiftRight (Nat.shiftLeft (Nat.land (Nat.shiftRight S 1280) 3369221991362840313089537705999706648616589804236015695738743685120) 1280) 238))
    (Nat.shiftRight (Nat.shiftLeft (Nat.land (Nat.shiftRight S 1024) 220805332425955102758635943100396774923736829410411524635934306148024320) 1024) 270))
    (Nat.shiftRight (Nat.shiftLeft (Nat.land (Nat.shiftRight S 768) 441664585568009339852499880326092792039152227033133284076349151850266624) 768) 287))
    (Nat.shiftRight (Nat.shiftLeft (Nat.land (Nat.shiftRight S 512) 883329171136018679704999760652185584078304454066266568152698303700533248) 512) 289))
    (Nat.shiftRight (Nat.shiftLeft (Nat.land (Nat.shiftRight S 256) 883221329703820411034543772401587099694947317641646098543737224592097280) 256) 274))
    (Nat.shiftRight (Nat.shiftLeft (Nat.land (Nat.shiftRight S 0) 13476887965451361252358150823998826594466359216944062782954974740480) 1806) 0))
    (Nat.shiftRight (Nat.shiftLeft (Nat.land (Nat.shiftRight S 1792) 13476887965451361252358150823998826594466359216944062782954974740480) 1792) 1778))
    (Nat.shiftRight (Nat.shiftLeft (Nat.land (Nat.shiftRight S 1536) 205666099473838386988500077429270740616671846729299651494412288) 1823) 0))
    (Nat.shiftRight (Nat.shiftLeft (Nat.land (Nat.shiftRight S 1280) 102833049736919193494250038714635370308335923364649825747206144) 1569) 0))
    (Nat.shiftRight (Nat.shiftLeft (Nat.land (Nat.shiftRight S 1024) 3369221991362840313089537705999706648616589804236015695738743685120) 1298) 0))
    (Nat.shiftRight (Nat.shiftLeft (Nat.land (Nat.shiftRight S 768) 220805332425955102758635943100396774923736829410411524635934306148024320) 1010) 0))
    (Nat.shiftRight (Nat.shiftLeft (Nat.land (Nat.shiftRight S 512) 441664585568009339852499880326092792039152227033133284076349151850266624) 737) 0))
    (Nat.shiftRight (Nat.shiftLeft (Nat.land (Nat.shiftRight S 256) 883329171136018679704999760652185584078304454066266568152698303700533248) 479) 0))
    (Nat.shiftRight (Nat.shiftLeft (Nat.land (Nat.shiftRight S 0) 883221329703820411034543772401587099694947317641646098543737224592097280) 238) 0))
    (Nat.shiftRight (Nat.shiftLeft (Nat.land (Nat.shiftRight S 1792) 13478533495117472529678341074404687257054206147251381960339950927872) 1807) 0))
    (Nat.shiftRight (Nat.shiftLeft (Nat.land (Nat.shiftRight S 1536) 26959946667150639794667015087019630673637144422540572481103610183680) 1552) 0))
    (Nat.shiftRight (Nat.shiftLeft (Nat.land (Nat.shiftRight S 1280) 6739266747558736264839170537202343628527103073625690980169975463936) 1297) 0))
    (Nat.shiftRight (Nat.shiftLeft (Nat.land (Nat.shiftRight S 1024) 28944930279785060096573432157050817219077880350843422905232229209088775307262) 1025) 0))
    (Nat.shiftRight (Nat.shiftLeft (Nat.land (Nat.shiftRight S 768) 441664585568009339852499880326092792039152227033133284076419512004509696) 768) 15))
    (Nat.shiftRight (Nat.shiftLeft (Nat.land (Nat.shiftRight S 512) 1766847064778384329583297500742918515827483896875618958121606196997652480) 512) 16))
    (Nat.shiftRight (Nat.shiftLeft (Nat.land (Nat.shiftRight S 256) 883329171136018679704999760652185584078304454066266568152839024009019392) 256) 17))
    (Nat.shiftRight (Nat.shiftLeft (Nat.land (Nat.shiftRight S 0) 57889860559570120193146864314101634438155760701686845810464458418177550614524) 0) 1))
    (Nat.shiftRight (Nat.shiftLeft (Nat.land (Nat.shiftRight S 1792) 220805332425955102758635943100396774923736829410411524635934306148024320) 1792) 1806))
    (Nat.shiftRight (Nat.shiftLeft (Nat.land (Nat.shiftRight S 1536) 441664585568009339852499880326092792039152227033133284076349151850266624) 1761) 0))
    (Nat.shiftRight (Nat.shiftLeft (Nat.land (Nat.shiftRight S 1280) 883329171136018679704999760652185584078304454066266568152698303700533248) 1503) 0))
    (Nat.shiftRight (Nat.shiftLeft (Nat.land (Nat.shiftRight S 1024) 883221329703820411034543772401587099694947317641646098543737224592097280) 1262) 0))
    (Nat.shiftRight (Nat.shiftLeft (Nat.land (Nat.shiftRight S 768) 13476887965451361252358150823998826594466359216944062782954974740480) 1038) 0))
    (Nat.shiftRight (Nat.shiftLeft (Nat.land (Nat.shiftRight S 512) 205666099473838386988500077429270740616671846729299651494412288) 799) 0))
    (Nat.shiftRight (Nat.shiftLeft (Nat.land (Nat.shiftRight S 256) 102833049736919193494250038714635370308335923364649825747206144) 545) 0))
    (Nat.shiftRight (Nat.shiftLeft (Nat.land (Nat.shiftRight S 0) 3369221991362840313089537705999706648616589804236015695738743685120) 274) 0))
    (Nat.shiftRight (Nat.shiftLeft (Nat.land (Nat.shiftRight S 1792) 441664585568009339852499880326092792039152227033133284076349151850266624) 1792) 287))
    (Nat.shiftRight (Nat.shiftLeft (Nat.land (Nat.shiftRight S 1536) 883329171136018679704999760652185584078304454066266568152698303700533248) 1536) 289))
    (Nat.shiftRight (Nat.shiftLeft (Nat.land (Nat.shiftRight S 1280) 883221329703820411034543772401587099694947317641646098543737224592097280) 1280) 274))
    (Nat.shiftRight (Nat.shiftLeft (Nat.land (Nat.shiftRight S 1024) 13476887965451361252358150823998826594466359216944062782954974740480) 1024) 242))
    (Nat.shiftRight (Nat.shiftLeft (Nat.land (Nat.shiftRight S 768) 205666099473838386988500077429270740616671846729299651494412288) 768) 225))
    (Nat.shiftRight (Nat.shiftLeft (Nat.land (Nat.shiftRight S 512) 102833049736919193494250038714635370308335923364649825747206144) 512) 223))
    (Nat.shiftRight (Nat.shiftLeft (Nat.land (Nat.shiftRight S 256) 3369221991362840313089537705999706648616589804236015695738743685120) 256) 238))
    (Nat.shiftRight (Nat.shiftLeft (Nat.land (Nat.shiftRight S 0) 220805332425955102758635943100396774923736829410411524635934306148024320) 1778) 0))
    (Nat.shiftRight (Nat.shiftLeft (Nat.land (Nat.shiftRight S 1792) 441664585568009339852499880326092792039152227033133284076419512004509696) 1792) 15))
    (Nat.shiftRight (Nat.shiftLeft (Nat.land (Nat.shiftRight S 1536) 1766847064778384329583297500742918515827483896875618958121606196997652480) 1536) 16))
    (Nat.shiftRight (Nat.shiftLeft (Nat.land (Nat.shiftRight S 1280) 883329171136018679704999760652185584078304454066266568152839024009019392) 1280) 17))
    (Nat.shiftRight (Nat.shiftLeft (Nat.land (Nat.shiftRight S 1024) 57889860559570120193146864314101634438155760701686845810464458418177550614524) 1024) 1))
    (Nat.shiftRight (Nat.shiftLeft (Nat.land (Nat.shiftRight S 768) 13478533495117472529678341074404687257054206147251381960339950927872) 783) 0))
    (Nat.shiftRight (Nat.shiftLeft (Nat.land (Nat.shiftRight S 512) 26959946667150639794667015087019630673637144422540572481103610183680) 528) 0))
    (Nat.shiftRight (Nat.shiftLeft (Nat.land (Nat.shiftRight S 256) 6739266747558736264839170537202343628527103073625690980169975463936) 273) 0))
    (Nat.shiftRight (Nat.shiftLeft (Nat.land (Nat.shiftRight S 0) 28944930279785060096573432157050817219077880350843422905232229209088775307262) 1) 0))
theorem nx6_eq (S : Nat) : nx6 S = stM S 6 S := by
  unfold nx6
  simp only [stM, stG, bt_0_0, bt_0_1, bt_0_2, bt_0_3, bt_0_4, bt_0_5, bt_0_6, bt_0_7, bt_1_0, bt_1_1, bt_1_2, bt_1_3, bt_1_4, bt_1_5, bt_1_6, bt_1_7, bt_2_0, bt_2_1, bt_2_2, bt_2_3, bt_2_4, bt_2_5, bt_2_6, bt_2_7, bt_3_0, bt_3_1, bt_3_2, bt_3_3, bt_3_4, bt_3_5, bt_3_6, bt_3_7, bt_4_0, bt_4_1, bt_4_2, bt_4_3, bt_4_4, bt_4_5, bt_4_6, bt_4_7, bt_5_0, bt_5_1, bt_5_2, bt_5_3, bt_5_4, bt_5_5, bt_5_6, bt_5_7, lor_nat]
def bfx6 : Nat → Nat → Bool
  | 0, S => frc (nx6 S) fun T => Nat.beq T S
  | k + 1, S => frc (nx6 S) fun T => Nat.beq T S || bfx6 k T
theorem bfx6_eq : ∀ (k S : Nat), bfx6 k S = bfs 6 k S := by
  intro k
  induction k with
  | zero => intro S; unfold bfx6 bfs; rw [nx6_eq]
  | succ k ih => intro S; unfold bfx6 bfs; rw [nx6_eq]; simp only [ih]
theorem allB_mk {f : Nat → Bool} : ∀ {n : Nat}, (∀ i, i < n → f i = true) → allB n f = true := by
  intro n
  induction n with
  | zero => intro _; rfl
  | succ k ih =>
    intro h
    have h1 := h k (Nat.lt_succ_self k)
    have h2 := ih fun i hi => h i (Nat.lt_succ_of_lt hi)
    unfold allB
    simp [h1, h2]
theorem ck_mv0 : allB 6 (fun m => allB 256 fun c => decide ((mvT m 0).1.testBit c = decide (eN (256 * 0 + c) m ≠ 0) ∧ (eN (256 * 0 + c) m ≠ 0 → eN (256 * 0 + c) m - 1 + (mvT m 0).2.2 = 256 * 0 + c + (mvT m 0).2.1) ∧ (mvT m 0).1 < 2 ^ 256)) = true := by decide +kernel
theorem ck_mv1 : allB 6 (fun m => allB 256 fun c => decide ((mvT m 1).1.testBit c = decide (eN (256 * 1 + c) m ≠ 0) ∧ (eN (256 * 1 + c) m ≠ 0 → eN (256 * 1 + c) m - 1 + (mvT m 1).2.2 = 256 * 1 + c + (mvT m 1).2.1) ∧ (mvT m 1).1 < 2 ^ 256)) = true := by decide +kernel
theorem ck_mv2 : allB 6 (fun m => allB 256 fun c => decide ((mvT m 2).1.testBit c = decide (eN (256 * 2 + c) m ≠ 0) ∧ (eN (256 * 2 + c) m ≠ 0 → eN (256 * 2 + c) m - 1 + (mvT m 2).2.2 = 256 * 2 + c + (mvT m 2).2.1) ∧ (mvT m 2).1 < 2 ^ 256)) = true := by decide +kernel
theorem ck_mv3 : allB 6 (fun m => allB 256 fun c => decide ((mvT m 3).1.testBit c = decide (eN (256 * 3 + c) m ≠ 0) ∧ (eN (256 * 3 + c) m ≠ 0 → eN (256 * 3 + c) m - 1 + (mvT m 3).2.2 = 256 * 3 + c + (mvT m 3).2.1) ∧ (mvT m 3).1 < 2 ^ 256)) = true := by decide +kernel
theorem ck_mv4 : allB 6 (fun m => allB 256 fun c => decide ((mvT m 4).1.testBit c = decide (eN (256 * 4 + c) m ≠ 0) ∧ (eN (256 * 4 + c) m ≠ 0 → eN (256 * 4 + c) m - 1 + (mvT m 4).2.2 = 256 * 4 + c + (mvT m 4).2.1) ∧ (mvT m 4).1 < 2 ^ 256)) = true := by decide +kernel
theorem ck_mv5 : allB 6 (fun m => allB 256 fun c => decide ((mvT m 5).1.testBit c = decide (eN (256 * 5 + c) m ≠ 0) ∧ (eN (256 * 5 + c) m ≠ 0 → eN (256 * 5 + c) m - 1 + (mvT m 5).2.2 = 256 * 5 + c + (mvT m 5).2.1) ∧ (mvT m 5).1 < 2 ^ 256)) = true := by decide +kernel
theorem ck_mv6 : allB 6 (fun m => allB 256 fun c => decide ((mvT m 6).1.testBit c = decide (eN (256 * 6 + c) m ≠ 0) ∧ (eN (256 * 6 + c) m ≠ 0 → eN (256 * 6 + c) m - 1 + (mvT m 6).2.2 = 256 * 6 + c + (mvT m 6).2.1) ∧ (mvT m 6).1 < 2 ^ 256)) = true := by decide +kernel
theorem ck_mv7 : allB 6 (fun m => allB 256 fun c => decide ((mvT m 7).1.testBit c = decide (eN (256 * 7 + c) m ≠ 0) ∧ (eN (256 * 7 + c) m ≠ 0 → eN (256 * 7 + c) m - 1 + (mvT m 7).2.2 = 256 * 7 + c + (mvT m 7).2.1) ∧ (mvT m 7).1 < 2 ^ 256)) = true := by decide +kernel
theorem ck_mv : allB 6 (fun m => allB 8 fun g => allB 256 fun c => decide ((mvT m g).1.testBit c = decide (eN (256 * g + c) m ≠ 0) ∧ (eN (256 * g + c) m ≠ 0 → eN (256 * g + c) m - 1 + (mvT m g).2.2 = 256 * g + c + (mvT m g).2.1) ∧ (mvT m g).1 < 2 ^ 256)) = true := by
  refine allB_mk fun m hm => allB_mk fun g hg => ?_
  match g, hg with
  | 0, _ => exact allB_get ck_mv0 m hm
  | 1, _ => exact allB_get ck_mv1 m hm
  | 2, _ => exact allB_get ck_mv2 m hm
  | 3, _ => exact allB_get ck_mv3 m hm
  | 4, _ => exact allB_get ck_mv4 m hm
  | 5, _ => exact allB_get ck_mv5 m hm
  | 6, _ => exact allB_get ck_mv6 m hm
  | 7, _ => exact allB_get ck_mv7 m hm
theorem ck_b0_0 : allB 64 (fun c => bfx3 20 (1 <<< (0 + c))) = true := by decide +kernel
theorem ck_b0_1 : allB 64 (fun c => bfx3 20 (1 <<< (64 + c))) = true := by decide +kernel
theorem ck_b0_2 : allB 64 (fun c => bfx3 20 (1 <<< (128 + c))) = true := by decide +kernel
theorem ck_b0_3 : allB 64 (fun c => bfx3 20 (1 <<< (192 + c))) = true := by decide +kernel
theorem ck_b0_4 : allB 64 (fun c => bfx3 20 (1 <<< (256 + c))) = true := by decide +kernel
theorem ck_b0_5 : allB 64 (fun c => bfx3 20 (1 <<< (320 + c))) = true := by decide +kernel
theorem ck_b0_6 : allB 64 (fun c => bfx3 20 (1 <<< (384 + c))) = true := by decide +kernel
theorem ck_b0_7 : allB 64 (fun c => bfx3 20 (1 <<< (448 + c))) = true := by decide +kernel
theorem ck_b0_8 : allB 64 (fun c => bfx3 20 (1 <<< (512 + c))) = true := by decide +kernel
theorem ck_b0_9 : allB 64 (fun c => bfx3 20 (1 <<< (576 + c))) = true := by decide +kernel
theorem ck_b0_10 : allB 64 (fun c => bfx3 20 (1 <<< (640 + c))) = true := by decide +kernel
theorem ck_b0_11 : allB 64 (fun c => bfx3 20 (1 <<< (704 + c))) = true := by decide +kernel
theorem ck_b0_12 : allB 64 (fun c => bfx3 20 (1 <<< (768 + c))) = true := by decide +kernel
theorem ck_b0_13 : allB 64 (fun c => bfx3 20 (1 <<< (832 + c))) = true := by decide +kernel
theorem ck_b0_14 : allB 64 (fun c => bfx3 20 (1 <<< (896 + c))) = true := by decide +kernel
theorem ck_b0_15 : allB 64 (fun c => bfx3 20 (1 <<< (960 + c))) = true := by decide +kernel
theorem ck_b0_16 : allB 64 (fun c => bfx3 20 (1 <<< (1024 + c))) = true := by decide +kernel
theorem ck_b0_17 : allB 64 (fun c => bfx3 20 (1 <<< (1088 + c))) = true := by decide +kernel
theorem ck_b0_18 : allB 64 (fun c => bfx3 20 (1 <<< (1152 + c))) = true := by decide +kernel
theorem ck_b0_19 : allB 64 (fun c => bfx3 20 (1 <<< (1216 + c))) = true := by decide +kernel
theorem ck_b0_20 : allB 64 (fun c => bfx3 20 (1 <<< (1280 + c))) = true := by decide +kernel
theorem ck_b0_21 : allB 64 (fun c => bfx3 20 (1 <<< (1344 + c))) = true := by decide +kernel
theorem ck_b0_22 : allB 64 (fun c => bfx3 20 (1 <<< (1408 + c))) = true := by decide +kernel
theorem ck_b0_23 : allB 64 (fun c => bfx3 20 (1 <<< (1472 + c))) = true := by decide +kernel
theorem ck_b0_24 : allB 64 (fun c => bfx3 20 (1 <<< (1536 + c))) = true := by decide +kernel
theorem ck_b0_25 : allB 64 (fun c => bfx3 20 (1 <<< (1600 + c))) = true := by decide +kernel
theorem ck_b0_26 : allB 64 (fun c => bfx3 20 (1 <<< (1664 + c))) = true := by decide +kernel
theorem ck_b0_27 : allB 64 (fun c => bfx3 20 (1 <<< (1728 + c))) = true := by decide +kernel
theorem ck_b0_28 : allB 64 (fun c => bfx3 20 (1 <<< (1792 + c))) = true := by decide +kernel
theorem ck_b0_29 : allB 64 (fun c => bfx3 20 (1 <<< (1856 + c))) = true := by decide +kernel
theorem ck_b0_30 : allB 64 (fun c => bfx3 20 (1 <<< (1920 + c))) = true := by decide +kernel
theorem ck_b0_31 : allB 64 (fun c => bfx3 20 (1 <<< (1984 + c))) = true := by decide +kernel
theorem b0_all {p : Nat} (hp : p < 2048) : bfs 3 20 (1 <<< p) = true := by
  rw [← bfx3_eq]
  obtain ⟨i, c, hi, hc, rfl⟩ : ∃ i c, i < 32 ∧ c < 64 ∧ p = 64 * i + c := ⟨p / 64, p % 64, by omega, by omega, by omega⟩
  match i, hi with
  | 0, _ => exact allB_get ck_b0_0 c hc
  | 1, _ => exact allB_get ck_b0_1 c hc
  | 2, _ => exact allB_get ck_b0_2 c hc
  | 3, _ => exact allB_get ck_b0_3 c hc
  | 4, _ => exact allB_get ck_b0_4 c hc
  | 5, _ => exact allB_get ck_b0_5 c hc
  | 6, _ => exact allB_get ck_b0_6 c hc
  | 7, _ => exact allB_get ck_b0_7 c hc
  | 8, _ => exact allB_get ck_b0_8 c hc
  | 9, _ => exact allB_get ck_b0_9 c hc
  | 10, _ => exact allB_get ck_b0_10 c hc
  | 11, _ => exact allB_get ck_b0_11 c hc
  | 12, _ => exact allB_get ck_b0_12 c hc
  | 13, _ => exact allB_get ck_b0_13 c hc
  | 14, _ => exact allB_get ck_b0_14 c hc
  | 15, _ => exact allB_get ck_b0_15 c hc
  | 16, _ => exact allB_get ck_b0_16 c hc
  | 17, _ => exact allB_get ck_b0_17 c hc
  | 18, _ => exact allB_get ck_b0_18 c hc
  | 19, _ => exact allB_get ck_b0_19 c hc
  | 20, _ => exact allB_get ck_b0_20 c hc
  | 21, _ => exact allB_get ck_b0_21 c hc
  | 22, _ => exact allB_get ck_b0_22 c hc
  | 23, _ => exact allB_get ck_b0_23 c hc
  | 24, _ => exact allB_get ck_b0_24 c hc
  | 25, _ => exact allB_get ck_b0_25 c hc
  | 26, _ => exact allB_get ck_b0_26 c hc
  | 27, _ => exact allB_get ck_b0_27 c hc
  | 28, _ => exact allB_get ck_b0_28 c hc
  | 29, _ => exact allB_get ck_b0_29 c hc
  | 30, _ => exact allB_get ck_b0_30 c hc
  | 31, _ => exact allB_get ck_b0_31 c hc
  | j + 32, h => exact absurd h (by omega)
theorem ck_b1_0 : allB 64 (fun c => bfx6 13 (1 <<< (0 + c))) = true := by decide +kernel
theorem ck_b1_1 : allB 64 (fun c => bfx6 13 (1 <<< (64 + c))) = true := by decide +kernel
theorem ck_b1_2 : allB 64 (fun c => bfx6 13 (1 <<< (128 + c))) = true := by decide +kernel
theorem ck_b1_3 : allB 64 (fun c => bfx6 13 (1 <<< (192 + c))) = true := by decide +kernel
theorem ck_b1_4 : allB 64 (fun c => bfx6 13 (1 <<< (256 + c))) = true := by decide +kernel
theorem ck_b1_5 : allB 64 (fun c => bfx6 13 (1 <<< (320 + c))) = true := by decide +kernel
theorem ck_b1_6 : allB 64 (fun c => bfx6 13 (1 <<< (384 + c))) = true := by decide +kernel
theorem ck_b1_7 : allB 64 (fun c => bfx6 13 (1 <<< (448 + c))) = true := by decide +kernel
theorem ck_b1_8 : allB 64 (fun c => bfx6 13 (1 <<< (512 + c))) = true := by decide +kernel
theorem ck_b1_9 : allB 64 (fun c => bfx6 13 (1 <<< (576 + c))) = true := by decide +kernel
theorem ck_b1_10 : allB 64 (fun c => bfx6 13 (1 <<< (640 + c))) = true := by decide +kernel
theorem ck_b1_11 : allB 64 (fun c => bfx6 13 (1 <<< (704 + c))) = true := by decide +kernel
theorem ck_b1_12 : allB 64 (fun c => bfx6 13 (1 <<< (768 + c))) = true := by decide +kernel
theorem ck_b1_13 : allB 64 (fun c => bfx6 13 (1 <<< (832 + c))) = true := by decide +kernel
theorem ck_b1_14 : allB 64 (fun c => bfx6 13 (1 <<< (896 + c))) = true := by decide +kernel
theorem ck_b1_15 : allB 64 (fun c => bfx6 13 (1 <<< (960 + c))) = true := by decide +kernel
theorem ck_b1_16 : allB 64 (fun c => bfx6 13 (1 <<< (1024 + c))) = true := by decide +kernel
theorem ck_b1_17 : allB 64 (fun c => bfx6 13 (1 <<< (1088 + c))) = true := by decide +kernel
theorem ck_b1_18 : allB 64 (fun c => bfx6 13 (1 <<< (1152 + c))) = true := by decide +kernel
theorem ck_b1_19 : allB 64 (fun c => bfx6 13 (1 <<< (1216 + c))) = true := by decide +kernel
theorem ck_b1_20 : allB 64 (fun c => bfx6 13 (1 <<< (1280 + c))) = true := by decide +kernel
theorem ck_b1_21 : allB 64 (fun c => bfx6 13 (1 <<< (1344 + c))) = true := by decide +kernel
theorem ck_b1_22 : allB 64 (fun c => bfx6 13 (1 <<< (1408 + c))) = true := by decide +kernel
theorem ck_b1_23 : allB 64 (fun c => bfx6 13 (1 <<< (1472 + c))) = true := by decide +kernel
theorem ck_b1_24 : allB 64 (fun c => bfx6 13 (1 <<< (1536 + c))) = true := by decide +kernel
theorem ck_b1_25 : allB 64 (fun c => bfx6 13 (1 <<< (1600 + c))) = true := by decide +kernel
theorem ck_b1_26 : allB 64 (fun c => bfx6 13 (1 <<< (1664 + c))) = true := by decide +kernel
theorem ck_b1_27 : allB 64 (fun c => bfx6 13 (1 <<< (1728 + c))) = true := by decide +kernel
theorem ck_b1_28 : allB 64 (fun c => bfx6 13 (1 <<< (1792 + c))) = true := by decide +kernel
theorem ck_b1_29 : allB 64 (fun c => bfx6 13 (1 <<< (1856 + c))) = true := by decide +kernel
theorem ck_b1_30 : allB 64 (fun c => bfx6 13 (1 <<< (1920 + c))) = true := by decide +kernel
theorem ck_b1_31 : allB 64 (fun c => bfx6 13 (1 <<< (1984 + c))) = true := by decide +kernel
theorem b1_all {p : Nat} (hp : p < 2048) : bfs 6 13 (1 <<< p) = true := by
  rw [← bfx6_eq]
  obtain ⟨i, c, hi, hc, rfl⟩ : ∃ i c, i < 32 ∧ c < 64 ∧ p = 64 * i + c := ⟨p / 64, p % 64, by omega, by omega, by omega⟩
  match i, hi with
  | 0, _ => exact allB_get ck_b1_0 c hc
  | 1, _ => exact allB_get ck_b1_1 c hc
  | 2, _ => exact allB_get ck_b1_2 c hc
  | 3, _ => exact allB_get ck_b1_3 c hc
  | 4, _ => exact allB_get ck_b1_4 c hc
  | 5, _ => exact allB_get ck_b1_5 c hc
  | 6, _ => exact allB_get ck_b1_6 c hc
  | 7, _ => exact allB_get ck_b1_7 c hc
  | 8, _ => exact allB_get ck_b1_8 c hc
  | 9, _ => exact allB_get ck_b1_9 c hc
  | 10, _ => exact allB_get ck_b1_10 c hc
  | 11, _ => exact allB_get ck_b1_11 c hc
  | 12, _ => exact allB_get ck_b1_12 c hc
  | 13, _ => exact allB_get ck_b1_13 c hc
  | 14, _ => exact allB_get ck_b1_14 c hc
  | 15, _ => exact allB_get ck_b1_15 c hc
  | 16, _ => exact allB_get ck_b1_16 c hc
  | 17, _ => exact allB_get ck_b1_17 c hc
  | 18, _ => exact allB_get ck_b1_18 c hc
  | 19, _ => exact allB_get ck_b1_19 c hc
  | 20, _ => exact allB_get ck_b1_20 c hc
  | 21, _ => exact allB_get ck_b1_21 c hc
  | 22, _ => exact allB_get ck_b1_22 c hc
  | 23, _ => exact allB_get ck_b1_23 c hc
  | 24, _ => exact allB_get ck_b1_24 c hc
  | 25, _ => exact allB_get ck_b1_25 c hc
  | 26, _ => exact allB_get ck_b1_26 c hc
  | 27, _ => exact allB_get ck_b1_27 c hc
  | 28, _ => exact allB_get ck_b1_28 c hc
  | 29, _ => exact allB_get ck_b1_29 c hc
  | 30, _ => exact allB_get ck_b1_30 c hc
  | 31, _ => exact allB_get ck_b1_31 c hc
  | j + 32, h => exact absurd h (by omega)
